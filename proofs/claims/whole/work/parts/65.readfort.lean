/-! THE CLASS reads a fort -/
theorem tpS_up (hi : Nat → Nat → Int32) (p : Nat) (w : Int32) {a : Nat} (i : Nat) (x : Int32) (h : a ≠ 1) : up2 (tpS hi p w) a i x = tpS (up2 hi a i x) p w := by
  unfold tpS
  rw [up2_comm _ _ _ (Or.inl (Ne.symm h)), up2_comm _ (b := a) (j := i) _ _ (Or.inl (Ne.symm h))]
theorem tpS_upC (hi : Nat → Nat → Int32) (p : Nat) (w : Int32) {a : Nat} (F : Nat → Int32) (h : a ≠ 1) : upC (tpS hi p w) a F = tpS (upC hi a F) p w := by
  unfold tpS
  funext c
  by_cases h1 : c = a
  · subst h1
    rw [upC_s, up2_o _ _ _ h, up2_o _ _ _ h, upC_s]
  · rw [upC_o _ _ h1]
    by_cases h2 : c = 1
    · subst h2
      rw [up2_s, up2_s, up2_s, up2_s, upC_o _ _ h1]
    · rw [up2_o _ _ _ h2, up2_o _ _ _ h2, up2_o _ _ _ h2, up2_o _ _ _ h2, upC_o _ _ h1]
theorem cq_lo {j : Nat} (hj : j < 3) : ∃ cq, cS[3 * j + 1]? = some cq ∧ cq.2.length = cN j ∧ ∀ k, cq.2.getD k 0 = fLo j k := by
  have : j = 0 ∨ j = 1 ∨ j = 2 := by omega
  rcases this with rfl | rfl | rfl <;> exact ⟨_, rfl, rfl, fun k => rfl⟩
theorem cq_hi {j : Nat} (hj : j < 3) : ∃ cq, cS[3 * j + 2]? = some cq ∧ cq.2.length = cN j ∧ ∀ k, cq.2.getD k 0 = fHi j k := by
  have : j = 0 ∨ j = 1 ∨ j = 2 := by omega
  rcases this with rfl | rfl | rfl <;> exact ⟨_, rfl, rfl, fun k => rfl⟩
section READFORT
variable {G : ph_G} {d f dr t L p fo ar j at' n : Nat} {hi : Nat → Nat → Int32} {hl : Nat → Nat → Int64} {w : Int32} {Q : Option Value → ph_H → Prop} {F : Nat → Int32}
/-- an array of items of a fort -/
def ArK (ar n : Nat) : Prop := ((ar = 4 ∨ ar = 8) ∧ n = 4) ∨ ((ar = 5 ∨ ar = 9) ∧ n = 35) ∨ ((ar = 6 ∨ ar = 10) ∧ n = 12)
theorem ArK.sh (h : ArK ar n) (hi : Nat → Nat → Int32) (hl : Nat → Nat → Int64) (f dr t : Nat) : (hS (HP hi hl f dr t))[ar]? = some (100, n) ∧ ar ≠ 1 ∧ ar ≠ 2 ∧ n ≤ 35 := by
  rcases h with ⟨rfl | rfl, rfl⟩ | ⟨rfl | rfl, rfl⟩ | ⟨rfl | rfl, rfl⟩ <;> exact ⟨rfl, by decide, by decide, by decide⟩
theorem c_items_loop (hj : j < 3) (hA : ArK ar n) (hat : at' + cN j ≤ n) (hT : TK hi L) :
    ∀ (m k p x : Nat) (A : Nat → Int32) (x9 : Option Value), k + m = cN j + 1 → p ≤ L → x < 32 →
    (∀ p' A', pItems (hi 2) L j m p x A = .inr (p', A') → Q none (HP (tpS (upC hi ar (ovl F at' (cN j) A')) p' (-1)) hl f dr t)) →
    (∀ q p' A', pItems (hi 2) L j m p x A = .inl q → p' ≤ L → Q none (HP (tpS (upC hi ar (ovl F at' (cN j) A')) p' (nI q)) hl f dr t)) →
    wq G (0, 0) (d + 5) 15 6 [some (.ref fo), some (.ref 1), some (.ref (1000 + (20 + j))), some (.ref (1000 + (3 * j + 1))), some (.ref (1000 + (3 * j + 2))), some (.ref ar), some (.int (nI at')), some (.int (nI x)), some (.int (nI k)), x9] [] (0, 0) (HP (tpS (upC hi ar (ovl F at' (cN j) A)) p (-1)) hl f dr t) Q := by
  obtain ⟨-, ar1, ar2, n35⟩ := hA.sh hi hl f dr t
  obtain ⟨hc5, hc1⟩ := cN3 j hj
  obtain ⟨cl, hcl, hcl1, hcl2⟩ := cq_lo hj
  obtain ⟨ch, hch, hch1, hch2⟩ := cq_hi hj
  have hLm := hT.2.1
  have hL : ∀ A : Nat → Int32, upC hi ar A 1 1 = nI L := fun A => by rw [upC_o _ _ (Ne.symm ar1)]; exact hT.1
  have h2 : ∀ A : Nat → Int32, upC hi ar A 2 = hi 2 := fun A => upC_o _ _ (Ne.symm ar2)
  have hb' : ∀ A : Nat → Int32, TpB (upC hi ar A 2) L := fun A => by rw [h2]; exact hT.2.2
  intro m
  induction m with
  | zero =>
    intro k p x A x9 hm hp hx hQ hF
    refine wq_iload q15_6 rfl ?_
    refine wq_aload_n q15_8 rfl ?_
    refine cT (As := []) q15_9 m_301 rfl rfl (by omega) rfl (c_length (j := j) (by omega) ?_)
    refine wq_icmp_gt q15_12 (fun c12 => ?_) (fun c12 => ?_)
    · refine rV q15_86 ?_
      exact hQ p A rfl
    · rw [nI_ltI (by omega) (by omega)] at c12
      omega
  | succ m ih =>
    intro k p x A x9 hm hp hx hQ hF
    have hs := tpSkip_le (b := hi 2) hp
    have hid := tpSkip_id (b := hi 2) hp
    rw [pItems] at hQ hF
    refine wq_iload q15_6 rfl ?_
    refine wq_aload_n q15_8 rfl ?_
    refine cT (As := []) q15_9 m_301 rfl rfl (by omega) rfl (c_length (j := j) (by omega) ?_)
    refine wq_icmp_gt q15_12 (fun c12 => ?_) (fun c12 => ?_)
    · rw [nI_ltI (by omega) (by omega)] at c12
      omega
    · refine wq_aload_n q15_15 rfl ?_
      refine wq_aload_n q15_16 rfl ?_
      refine cV (As := [_]) q15_17 m_76 rfl rfl rfl ⟨by decide, rfl⟩ rfl (c_letterOf (j := j) (by omega) (hL _) hLm (hb' _) hp ?_)
      refine wq_istore (ls' := [_, _, _, _, _, _, _, _, _, _]) q15_20 rfl ?_
      rw [h2, tat_here]
      generalize hq : tpSkip (hi 2) L p = q at hs hid hQ hF
      generalize hc : tat (hi 2) L q = c at hQ hF
      rcases liO_nm (j := j) (x := c) (by omega) with z | ⟨i, i1, i2, i3⟩
      · rw [z] at hQ ⊢
        rw [if_pos rfl] at hQ
        refine wq_iload q15_22 rfl ?_
        refine wq_iconst q15_24 ?_
        refine wq_icmp_ne q15_25 (fun c25 => ?_) (fun c25 => ?_)
        · exact absurd rfl c25
        · refine rV q15_28 ?_
          exact hQ q A rfl
      · have hi5 : i < 5 := by omega
        rw [i2, nI_clamp (by omega), if_neg (nI_nm1 (by omega))] at hQ hF
        rw [i2]
        obtain ⟨hd1, hd2, hd3⟩ := hd_ok x hx i hi5
        have hlt : q < L := tat_lt hc (fun z => by have := (cB_ok j (by omega) i (by omega)).1; rw [i3, z] at this; exact absurd this (by decide))
        refine wq_iload q15_22 rfl ?_
        refine wq_iconst q15_24 ?_
        refine wq_icmp_ne q15_25 (fun c25 => ?_) (fun c25 => ?_)
        · refine wq_iload q15_29 rfl ?_
          refine wq_iload q15_31 rfl ?_
          refine wq_ishr q15_33 ?_
          refine wq_iconst q15_34 ?_
          refine wq_iand q15_35 ?_
          refine wq_iconst q15_36 ?_
          refine wq_icmp_ne q15_37 (fun c37 => ?_) (fun c37 => ?_)
          · have hbit : x.testBit i = false := by
              rw [← hd1]
              simp [hsB, c37]
            rw [hbit, if_neg (by decide)] at hQ hF
            have hn := pNum_ok (b := hi 2) (L := L) (lo := fLo j i) (hi := fHi j i) (p := q + 1) (by omega)
            refine wq_iload q15_45 rfl ?_
            refine wq_iconst q15_47 ?_
            refine wq_iload q15_48 rfl ?_
            refine wq_ishl q15_50 ?_
            refine wq_ior q15_51 ?_
            refine wq_istore (ls' := [_, _, _, _, _, _, _, _, _, _]) q15_52 rfl ?_
            rw [hd2]
            refine wq_aload_n q15_54 rfl ?_
            refine cV (As := []) q15_55 m_70 rfl rfl rfl ⟨by decide, rfl⟩ rfl (c_pass (hL _) hLm hs.2 ?_)
            rw [pass_lt hlt]
            refine wq_aload q15_58 rfl ?_
            refine wq_iload q15_60 rfl ?_
            refine wq_iload q15_62 rfl ?_
            refine wq_iadd q15_64 ?_
            refine wq_aload_n q15_65 rfl ?_
            refine wq_iconst q15_66 ?_
            refine wq_aload_n q15_67 rfl ?_
            refine wq_iload q15_68 rfl ?_
            refine aC q15_70 (by first | exact hcl | exact hch | rfl) (rfl) (by omega) (by first | decide | omega) ?_
            rw [hcl2]
            refine wq_aload q15_71 rfl ?_
            refine wq_iload q15_73 rfl ?_
            refine aC q15_75 (by first | exact hcl | exact hch | rfl) (rfl) (by omega) (by first | decide | omega) ?_
            rw [hch2]
            refine cV (As := [_, _, _]) q15_76 m_78 rfl rfl rfl ⟨by decide, rfl⟩ rfl (c_number (D := 2) (hL _) hLm (by decide) (by omega) (fun y hy => ?_))
            rw [h2] at hy ⊢
            subst hy
            obtain ⟨hsh, -⟩ := hA.sh (tpS (upC hi ar (ovl F at' (cN j) A)) (tpDg (hi 2) L (-1) 2 0 0 (tpSkip (hi 2) L (q + 1))).2.2 (tpNe (hi 2) L (-1) (fLo j i) (fHi j i) (tpDg (hi 2) L (-1) 2 0 0 (tpSkip (hi 2) L (q + 1)))).2.2) hl f dr t
            refine sI q15_79 (by first | exact hsh | rfl) (nI_add _ _) (by omega) (by first | decide | omega) (by first | exact hsh | rfl) ?_
            rw [hpS, tpS_up _ _ _ _ _ ar1, up2_C, upC_s, upC_C, ovl_up i1]
            cases hps : pNum (hi 2) L (fLo j i) (fHi j i) (q + 1) with
            | inl q1 =>
              obtain ⟨g1, g2, g3⟩ := hn.1 q1 hps
              rw [hps] at hF
              rw [g1]
              refine wq_iinc (ls' := [_, _, _, _, _, _, _, _, _, _]) q15_80 rfl rfl ?_
              refine wq_goto q15_83 ?_
              refine wq_iload q15_6 rfl ?_
              refine wq_aload_n q15_8 rfl ?_
              refine cT (As := []) q15_9 m_301 rfl rfl (by omega) rfl (c_length (j := j) (by omega) ?_)
              refine wq_icmp_gt q15_12 (fun c12 => ?_) (fun c12 => ?_)
              · refine rV q15_86 ?_
                exact hF q1 _ _ rfl g2
              · refine wq_aload_n q15_15 rfl ?_
                refine wq_aload_n q15_16 rfl ?_
                refine cV (As := [_]) q15_17 m_76 rfl rfl rfl ⟨by decide, rfl⟩ rfl (c_letterOf (j := j) (by omega) (hL _) hLm (hb' _) g2 ?_)
                refine wq_istore (ls' := [_, _, _, _, _, _, _, _, _, _]) q15_20 rfl ?_
                rw [here_w (nI_nm1 (by omega)), liO_m1 (by omega), h2]
                refine wq_iload q15_22 rfl ?_
                refine wq_iconst q15_24 ?_
                refine wq_icmp_ne q15_25 (fun c25 => ?_) (fun c25 => ?_)
                · exact absurd rfl c25
                · refine rV q15_28 ?_
                  exact hF q1 _ _ rfl (tpSkip_le g2).2
            | inr y =>
              obtain ⟨p1, v1⟩ := y
              obtain ⟨g1, g2, g3, g4, g5, -⟩ := hn.2 p1 v1 hps
              rw [hps, pB_r] at hQ hF
              rw [g1, g2, g3]
              refine wq_iinc (ls' := [_, _, _, _, _, _, _, _, _, _]) q15_80 rfl rfl ?_
              refine wq_goto q15_83 ?_
              rw [nI_1]
              exact ih (k + 1) p1 (x ||| 2 ^ i) (va_up A i v1) _ (by omega) g5 hd3 hQ hF
          · have hbit : x.testBit i = true := by
              rw [← hd1]
              simp [hsB, c37]
            rw [if_pos hbit] at hF
            refine wq_aload_n q15_40 rfl ?_
            refine cV (As := []) q15_41 m_74 rfl rfl rfl ⟨by decide, rfl⟩ rfl (c_fail (hL _) hLm hs.2 ?_)
            refine rV q15_44 ?_
            rw [h2, hid, tpF_1]
            exact hF q q A rfl hs.2
        · exact absurd c25 (nI_nm1 (by omega))
theorem c_readItems (hj : j < 3) (hA : ArK ar n) (hat : at' + cN j ≤ n) (hT : TK hi L) (hp : p ≤ L) {A : Nat → Int32}
    (hQ : ∀ p' A', pItems (hi 2) L j (cN j + 1) p 0 A = .inr (p', A') → Q none (HP (tpS (upC hi ar (ovl F at' (cN j) A')) p' (-1)) hl f dr t))
    (hF : ∀ q p' A', pItems (hi 2) L j (cN j + 1) p 0 A = .inl q → p' ≤ L → Q none (HP (tpS (upC hi ar (ovl F at' (cN j) A')) p' (nI q)) hl f dr t)) :
    Ct G (0, 0) (d + 5) 15 [.ref fo, .ref 1, .ref (1000 + (20 + j)), .ref (1000 + (3 * j + 1)), .ref (1000 + (3 * j + 2)), .ref ar, .int (nI at')] (HP (tpS (upC hi ar (ovl F at' (cN j) A)) p (-1)) hl f dr t) Q := by
  refine Ct_of (ls := [_, _, _, _, _, _, _, _, _, _]) m_15.1.2.2.1 (Nat.le_of_ble_eq_true rfl) rfl ?_
  refine wq_iconst q15_0 ?_
  refine wq_istore (ls' := [_, _, _, _, _, _, _, _, _, _]) q15_1 rfl ?_
  refine wq_iconst q15_3 ?_
  refine wq_istore (ls' := [_, _, _, _, _, _, _, _, _, _]) q15_4 rfl ?_
  exact c_items_loop hj hA hat hT (cN j + 1) 0 p 0 A _ (by omega) hp (by decide) hQ hF
/-- a fort that is being read -/
def CS (fo : Nat) (hi hi' : Nat → Nat → Int32) (S : FS) : Prop := hi' fo 3 = nI S.2.1.1 ∧ hi' fo 4 = nI S.2.2.1.1 ∧ hi' fo 5 = (if S.2.2.2 = true then 1 else 0) ∧ (∀ k, k < 4 → hi' (fo + 1) k = S.1 k) ∧ (∀ k, k < S.2.1.1 * 5 → hi' (fo + 2) k = S.2.1.2 k) ∧ (∀ k, k < S.2.2.1.1 * 2 → hi' (fo + 3) k = S.2.2.1.2 k) ∧ (S.2.2.2 = false → ∀ k, k < 4 → S.1 k = fU 0 k) ∧ Same [fo, fo + 1, fo + 2, fo + 3] hi hi'
theorem ovl_self {F A : Nat → Int32} {at' n : Nat} (h : ∀ k, k < n → F (at' + k) = A k) : ovl F at' n A = F := by
  funext j
  unfold ovl
  split
  · rename_i hj
    rw [← h (j - at') (by omega), show at' + (j - at') = j by omega]
  · rfl
theorem Fok.arK (h : Fok fo) : ArK (fo + 1) 4 ∧ ArK (fo + 2) 35 ∧ ArK (fo + 3) 12 ∧ fo ≠ 1 ∧ fo ≠ 2 := by
  rcases h with rfl | rfl
  · exact ⟨Or.inl ⟨Or.inl rfl, rfl⟩, Or.inr (Or.inl ⟨Or.inl rfl, rfl⟩), Or.inr (Or.inr ⟨Or.inl rfl, rfl⟩), by decide, by decide⟩
  · exact ⟨Or.inl ⟨Or.inr rfl, rfl⟩, Or.inr (Or.inl ⟨Or.inr rfl, rfl⟩), Or.inr (Or.inr ⟨Or.inr rfl, rfl⟩), by decide, by decide⟩
theorem Fok.in4 (h : Fok fo) : 1 ∉ [fo, fo + 1, fo + 2, fo + 3] ∧ 2 ∉ [fo, fo + 1, fo + 2, fo + 3] := by
  rcases h with rfl | rfl <;> decide
theorem CS.tk {hi' : Nat → Nat → Int32} {S : FS} (hfo : Fok fo) (h : CS fo hi hi' S) (hT : TK hi L) : TK hi' L ∧ hi' 2 = hi 2 := by
  have h1 := h.2.2.2.2.2.2.2 1 hfo.in4.1
  have h2 := h.2.2.2.2.2.2.2 2 hfo.in4.2
  exact ⟨⟨by rw [h1]; exact hT.1, hT.2.1, by rw [h2]; exact hT.2.2⟩, h2⟩
theorem c_fClause {hi' : Nat → Nat → Int32} {S : FS} (hfo : Fok fo) (hT : TK hi L) (hS : CS fo hi hi' S) (hok : FSok S) (hp : p ≤ L)
    (hQ : ∀ p' S' hi2, pFC (hi 2) L p S = .inr (p', S') → CS fo hi hi2 S' → Q none (HP (tpS hi2 p' (-1)) hl f dr t))
    (hF : ∀ q p' hi2, pFC (hi 2) L p S = .inl q → p' ≤ L → Same [fo, fo + 1, fo + 2, fo + 3] hi hi2 → Q none (HP (tpS hi2 p' (nI q)) hl f dr t)) :
    Ct G (0, 0) (d + 6) 14 [.ref fo, .ref 1] (HP (tpS hi' p (-1)) hl f dr t) Q := by
  obtain ⟨hT', h2⟩ := hS.tk hfo hT
  obtain ⟨a1, a2, a3, fo1, fo2⟩ := hfo.arK
  obtain ⟨s3, s4, s5, sR, sC, sE, sU, sS⟩ := hS
  have hL := hT'.1
  have hLm := hT'.2.1
  have hs := tpSkip_le (b := hi 2) hp
  have hid := tpSkip_id (b := hi 2) hp
  obtain ⟨f1, f2, f3, f4, f5, f6, f7⟩ := hfo.frt (tpS hi' p (-1)) hl f dr t
  have e3 : ∀ p w, hI (HP (tpS hi' p w) hl f dr t) fo 3 = nI S.2.1.1 := fun p w => by show tpS hi' p w fo 3 = _; rw [tpS_o _ _ _ fo1]; exact s3
  have e4 : ∀ p w, hI (HP (tpS hi' p w) hl f dr t) fo 4 = nI S.2.2.1.1 := fun p w => by show tpS hi' p w fo 4 = _; rw [tpS_o _ _ _ fo1]; exact s4
  have e5 : ∀ p w, hI (HP (tpS hi' p w) hl f dr t) fo 5 = (if S.2.2.2 = true then 1 else 0) := fun p w => by show tpS hi' p w fo 5 = _; rw [tpS_o _ _ _ fo1]; exact s5
  have n7 := hok.2.1
  have n6 := hok.2.2.2.1
  unfold pFC at hQ hF
  refine Ct_of (ls := [_, _, _, _]) m_14.1.2.2.1 (Nat.le_of_ble_eq_true rfl) rfl ?_
  refine wq_aload_n q14_0 rfl ?_
  refine cV (As := []) q14_1 m_69 rfl rfl rfl ⟨by decide, rfl⟩ rfl (c_next hL hLm hp ?_)
  refine wq_istore_n (ls' := [_, _, _, _]) q14_4 rfl ?_
  rw [h2, tat_here]
  generalize hq : tpSkip (hi 2) L p = q at hs hid hQ hF
  generalize hc : tat (hi 2) L q = c at hQ hF
  have other : ¬ (c = 115 ∧ S.2.2.2 = false) → ¬ (c = 99 ∧ S.2.1.1 < 7) → ¬ (c = 118 ∧ S.2.2.1.1 < 6) → ∀ x3, wq G (0, 0) (d + 6) 14 188 [some (.ref fo), some (.ref 1), some (.int c), x3] [] (0, 0) (HP (tpS hi' q (-1)) hl f dr t) Q := by
    intro z1 z2 z3 x3
    unfold pFCc at hF
    rw [if_neg z1, if_neg z2, if_neg z3] at hF
    refine wq_aload_n q14_188 rfl ?_
    refine cV (As := []) q14_189 m_74 rfl rfl rfl ⟨by decide, rfl⟩ rfl (c_fail hL hLm hs.2 ?_)
    refine rV q14_192 ?_
    rw [h2, hid, tpF_1]
    exact hF q q hi' rfl hs.2 sS
  have third : ¬ (c = 115 ∧ S.2.2.2 = false) → ¬ (c = 99 ∧ S.2.1.1 < 7) → ∀ x3, wq G (0, 0) (d + 6) 14 118 [some (.ref fo), some (.ref 1), some (.int c), x3] [] (0, 0) (HP (tpS hi' q (-1)) hl f dr t) Q := by
    intro z1 z2 x3
    refine wq_iload_n q14_118 rfl ?_
    refine wq_bipush q14_119 ?_
    refine wq_icmp_ne q14_121 (fun c121 => ?_) (fun c121 => ?_)
    · exact other z1 z2 (fun z => c121 z.1) _
    · refine wq_aload_n q14_124 rfl ?_
      refine wq_getI q14_125 (by first | exact f1 | rfl) rfl ?_
      refine wq_bipush q14_128 ?_
      refine wq_icmp_ge q14_130 (fun c130 => ?_) (fun c130 => ?_)
      · rw [e4, show (6 : Int32) = nI 6 from rfl, nI_leI (by omega) (by omega)] at c130
        exact other z1 z2 (fun z => by omega) _
      · rw [e4, show (6 : Int32) = nI 6 from rfl, nI_leI (by omega) (by omega)] at c130
        have z3 : c = 118 ∧ S.2.2.1.1 < 6 := ⟨c121, by omega⟩
        unfold pFCc at hQ hF
        rw [if_neg z1, if_neg z2, if_pos z3] at hQ hF
        have hlt : q < L := tat_lt hc (by rw [c121]; decide)
        refine wq_aload_n q14_133 rfl ?_
        refine wq_getI q14_134 (by first | exact f1 | rfl) rfl ?_
        refine wq_iconst q14_137 ?_
        rw [e4]
        refine wq_imul q14_138 ?_
        rw [show nI S.2.2.1.1 * (2 : Int32) = nI (S.2.2.1.1 * 2) from pk_mul _ 2]
        refine wq_istore_n (ls' := [_, _, _, _]) q14_139 rfl ?_
        refine wq_getS q14_140 ?_
        refine wq_iconst q14_143 ?_
        refine wq_aload_n q14_144 rfl ?_
        refine wq_getR q14_145 (by first | exact f1 | exact f4 | rfl) rfl (by first | exact f1 | exact f4 | rfl) ?_
        refine wq_iload_n q14_148 rfl ?_
        refine wq_iconst q14_149 ?_
        refine wq_copyC q14_150 rfl (by exact f7) (by decide) (nI_pos (by omega)) (by decide) (by decide) (by rw [nI_clamp (by omega)]; show S.2.2.1.1 * 2 + 2 ≤ 12; omega) rfl ⟨Nat.le.refl, Nat.le.refl, Nat.le_of_ble_eq_true rfl⟩ ?_
        rw [hpC, nI_clamp (by omega), tpS_upC _ _ _ _ (by omega)]
        have eF : va_cpy (fun j => ([3, 5] : List Int32).getD j 0) (hi' (fo + 3)) 0 (S.2.2.1.1 * 2) 2 = ovl (hi' (fo + 3)) (S.2.2.1.1 * 2) 2 (fU 2) := by
          funext k
          unfold ovl
          by_cases hk : S.2.2.1.1 * 2 ≤ k ∧ k < S.2.2.1.1 * 2 + 2
          · rw [if_pos hk, pk_cpy_in (by omega) (by omega), Nat.zero_add]
            rfl
          · rw [if_neg hk, pk_cpy_out (by omega)]
        have e3F : hI (HP (tpS hi' q (-1)) hl f dr t) (fo + 3) = hi' (fo + 3) := by show tpS hi' q (-1) (fo + 3) = _; rw [tpS_o _ _ _ (by omega)]
        have e0 : ((0 : Int32).toNatClampNeg) = 0 := rfl
        have e22 : ((2 : Int32).toNatClampNeg) = 2 := rfl
        rw [e3F, e0, e22, show (fun j => (("EVENT_USUAL", ([3, 5] : List Int32)) : String × List Int32).2.getD j 0) = (fun j => ([3, 5] : List Int32).getD j 0) from rfl, eF]
        have e4' : hI (HP (tpS (upC hi' (fo + 3) (ovl (hi' (fo + 3)) (S.2.2.1.1 * 2) 2 (fU 2))) q (-1)) hl f dr t) fo 4 = nI S.2.2.1.1 := by show tpS _ q (-1) fo 4 = _; rw [tpS_o _ _ _ fo1, upC_o _ _ (by omega)]; exact s4
        refine wq_aload_n q14_153 rfl ?_
        refine wq_dup q14_154 rfl ?_
        refine wq_getI q14_155 (by first | exact f1 | rfl) rfl ?_
        refine wq_iconst q14_158 ?_
        refine wq_iadd q14_159 ?_
        refine wq_putI q14_160 (by first | exact f1 | rfl) rfl rfl rfl ?_
        rw [e4', nI_1, hpS, tpS_up _ _ _ _ _ fo1]
        have hmove : up2 (upC hi' (fo + 3) (ovl (hi' (fo + 3)) (S.2.2.1.1 * 2) 2 (fU 2))) fo 4 (nI (S.2.2.1.1 + 1)) = upC (up2 hi' fo 4 (nI (S.2.2.1.1 + 1))) (fo + 3) (ovl (hi' (fo + 3)) (S.2.2.1.1 * 2) 2 (fU 2)) := by
          rw [up2_C, up2_C, upC_o _ _ (by omega), upC_comm _ _ _ (by omega)]
        rw [hmove]
        have hTn : TK (up2 hi' fo 4 (nI (S.2.2.1.1 + 1))) L := ⟨by rw [up2_o _ _ _ (Ne.symm fo1)]; exact hT'.1, hT'.2.1, by rw [up2_o _ _ _ (Ne.symm fo2)]; exact hT'.2.2⟩
        have h2n : up2 hi' fo 4 (nI (S.2.2.1.1 + 1)) 2 = hi 2 := by rw [up2_o _ _ _ (Ne.symm fo2)]; exact h2
        refine wq_aload_n q14_163 rfl ?_
        refine cV (As := []) q14_164 m_70 rfl rfl rfl ⟨by decide, rfl⟩ rfl (c_pass (by rw [upC_o _ _ (by omega), up2_o _ _ _ (Ne.symm fo1)]; exact hL) hLm hs.2 ?_)
        rw [pass_lt hlt]
        refine wq_aload_n q14_167 rfl ?_
        refine wq_aload_n q14_168 rfl ?_
        refine wq_ldcS q14_169 ?_
        refine wq_getS q14_171 ?_
        refine wq_getS q14_174 ?_
        refine wq_aload_n q14_177 rfl ?_
        refine wq_getR q14_178 (by first | exact f1 | exact f4 | rfl) rfl (by first | exact f1 | exact f4 | rfl) ?_
        refine wq_iload_n q14_181 rfl ?_
        refine cV (As := [_, _, _, _, _, _]) q14_182 m_15 rfl rfl (by first | exact f1 | exact f4 | rfl) ⟨by decide, rfl⟩ rfl (c_readItems (j := 2) (n := 12) (at' := S.2.2.1.1 * 2) (by decide) a3 (by show S.2.2.1.1 * 2 + 2 ≤ 12; omega) hTn (by omega) (fun p' A' hpi => ?_) (fun q' p' A' hpi hp' => ?_))
        · rw [h2n] at hpi
          rw [show pItems (hi 2) L 2 3 (q + 1) 0 (fU 2) = _ from hpi] at hQ
          refine wq_goto q14_185 ?_
          refine rV q14_192 ?_
          refine hQ p' _ _ rfl ⟨?_, ?_, ?_, fun k hk => ?_, fun k hk => ?_, fun k hk => ?_, sU, fun a ha => ?_⟩
          · rw [upC_o _ _ (by omega), up2_s, vu_o _ _ (by decide)]; exact s3
          · rw [upC_o _ _ (by omega), up2_s, vu_s]
          · rw [upC_o _ _ (by omega), up2_s, vu_o _ _ (by decide)]; exact s5
          · rw [upC_o _ _ (by omega), up2_o _ _ _ (by omega)]; exact sR k hk
          · rw [upC_o _ _ (by omega), up2_o _ _ _ (by omega)]; exact sC k hk
          · rw [upC_s]
            dsimp only at hk ⊢
            show ovl (hi' (fo + 3)) (S.2.2.1.1 * 2) 2 A' k = ovl S.2.2.1.2 (S.2.2.1.1 * 2) 2 A' k
            by_cases hk2 : k < S.2.2.1.1 * 2
            · rw [ovl_out (by omega), ovl_out (by omega)]; exact sE k hk2
            · unfold ovl
              rw [if_pos (by omega), if_pos (by omega)]
          · simp only [List.mem_cons, List.not_mem_nil, or_false, not_or] at ha
            rw [upC_o _ _ ha.2.2.2, up2_o _ _ _ ha.1]
            exact sS a (by simp only [List.mem_cons, List.not_mem_nil, or_false, not_or]; exact ha)
        · rw [h2n] at hpi
          rw [show pItems (hi 2) L 2 3 (q + 1) 0 (fU 2) = _ from hpi] at hF
          refine wq_goto q14_185 ?_
          refine rV q14_192 ?_
          refine hF q' p' _ rfl hp' (fun a ha => ?_)
          simp only [List.mem_cons, List.not_mem_nil, or_false, not_or] at ha
          rw [upC_o _ _ ha.2.2.2, up2_o _ _ _ ha.1]
          exact sS a (by simp only [List.mem_cons, List.not_mem_nil, or_false, not_or]; exact ha)
  have second : ¬ (c = 115 ∧ S.2.2.2 = false) → ∀ x3, wq G (0, 0) (d + 6) 14 48 [some (.ref fo), some (.ref 1), some (.int c), x3] [] (0, 0) (HP (tpS hi' q (-1)) hl f dr t) Q := by
    intro z1 x3
    refine wq_iload_n q14_48 rfl ?_
    refine wq_bipush q14_49 ?_
    refine wq_icmp_ne q14_51 (fun c51 => ?_) (fun c51 => ?_)
    · exact third z1 (fun z => c51 z.1) _
    · refine wq_aload_n q14_54 rfl ?_
      refine wq_getI q14_55 (by first | exact f1 | rfl) rfl ?_
      refine wq_bipush q14_58 ?_
      refine wq_icmp_ge q14_60 (fun c60 => ?_) (fun c60 => ?_)
      · rw [e3, show (7 : Int32) = nI 7 from rfl, nI_leI (by omega) (by omega)] at c60
        exact third z1 (fun z => by omega) _
      · rw [e3, show (7 : Int32) = nI 7 from rfl, nI_leI (by omega) (by omega)] at c60
        have z3 : c = 99 ∧ S.2.1.1 < 7 := ⟨c51, by omega⟩
        unfold pFCc at hQ hF
        rw [if_neg z1, if_pos z3] at hQ hF
        have hlt : q < L := tat_lt hc (by rw [c51]; decide)
        refine wq_aload_n q14_63 rfl ?_
        refine wq_getI q14_64 (by first | exact f1 | rfl) rfl ?_
        refine wq_iconst q14_67 ?_
        rw [e3]
        refine wq_imul q14_68 ?_
        rw [show nI S.2.1.1 * (5 : Int32) = nI (S.2.1.1 * 5) from pk_mul _ 5]
        refine wq_istore_n (ls' := [_, _, _, _]) q14_69 rfl ?_
        refine wq_getS q14_70 ?_
        refine wq_iconst q14_73 ?_
        refine wq_aload_n q14_74 rfl ?_
        refine wq_getR q14_75 (by first | exact f1 | exact f3 | rfl) rfl (by first | exact f1 | exact f3 | rfl) ?_
        refine wq_iload_n q14_78 rfl ?_
        refine wq_iconst q14_79 ?_
        refine wq_copyC q14_80 rfl (by exact f6) (by decide) (nI_pos (by omega)) (by decide) (by decide) (by rw [nI_clamp (by omega)]; show S.2.1.1 * 5 + 5 ≤ 35; omega) rfl ⟨Nat.le.refl, Nat.le.refl, Nat.le_of_ble_eq_true rfl⟩ ?_
        rw [hpC, nI_clamp (by omega), tpS_upC _ _ _ _ (by omega)]
        have eF : va_cpy (fun j => ([4, 3, 9, 6, 5] : List Int32).getD j 0) (hi' (fo + 2)) 0 (S.2.1.1 * 5) 5 = ovl (hi' (fo + 2)) (S.2.1.1 * 5) 5 (fU 1) := by
          funext k
          unfold ovl
          by_cases hk : S.2.1.1 * 5 ≤ k ∧ k < S.2.1.1 * 5 + 5
          · rw [if_pos hk, pk_cpy_in (by omega) (by omega), Nat.zero_add]
            rfl
          · rw [if_neg hk, pk_cpy_out (by omega)]
        have e3F : hI (HP (tpS hi' q (-1)) hl f dr t) (fo + 2) = hi' (fo + 2) := by show tpS hi' q (-1) (fo + 2) = _; rw [tpS_o _ _ _ (by omega)]
        have e0 : ((0 : Int32).toNatClampNeg) = 0 := rfl
        have e22 : ((5 : Int32).toNatClampNeg) = 5 := rfl
        rw [e3F, e0, e22, show (fun j => (("CELL_USUAL", ([4, 3, 9, 6, 5] : List Int32)) : String × List Int32).2.getD j 0) = (fun j => ([4, 3, 9, 6, 5] : List Int32).getD j 0) from rfl, eF]
        have e4' : hI (HP (tpS (upC hi' (fo + 2) (ovl (hi' (fo + 2)) (S.2.1.1 * 5) 5 (fU 1))) q (-1)) hl f dr t) fo 3 = nI S.2.1.1 := by show tpS _ q (-1) fo 3 = _; rw [tpS_o _ _ _ fo1, upC_o _ _ (by omega)]; exact s3
        refine wq_aload_n q14_83 rfl ?_
        refine wq_dup q14_84 rfl ?_
        refine wq_getI q14_85 (by first | exact f1 | rfl) rfl ?_
        refine wq_iconst q14_88 ?_
        refine wq_iadd q14_89 ?_
        refine wq_putI q14_90 (by first | exact f1 | rfl) rfl rfl rfl ?_
        rw [e4', nI_1, hpS, tpS_up _ _ _ _ _ fo1]
        have hmove : up2 (upC hi' (fo + 2) (ovl (hi' (fo + 2)) (S.2.1.1 * 5) 5 (fU 1))) fo 3 (nI (S.2.1.1 + 1)) = upC (up2 hi' fo 3 (nI (S.2.1.1 + 1))) (fo + 2) (ovl (hi' (fo + 2)) (S.2.1.1 * 5) 5 (fU 1)) := by
          rw [up2_C, up2_C, upC_o _ _ (by omega), upC_comm _ _ _ (by omega)]
        rw [hmove]
        have hTn : TK (up2 hi' fo 3 (nI (S.2.1.1 + 1))) L := ⟨by rw [up2_o _ _ _ (Ne.symm fo1)]; exact hT'.1, hT'.2.1, by rw [up2_o _ _ _ (Ne.symm fo2)]; exact hT'.2.2⟩
        have h2n : up2 hi' fo 3 (nI (S.2.1.1 + 1)) 2 = hi 2 := by rw [up2_o _ _ _ (Ne.symm fo2)]; exact h2
        refine wq_aload_n q14_93 rfl ?_
        refine cV (As := []) q14_94 m_70 rfl rfl rfl ⟨by decide, rfl⟩ rfl (c_pass (by rw [upC_o _ _ (by omega), up2_o _ _ _ (Ne.symm fo1)]; exact hL) hLm hs.2 ?_)
        rw [pass_lt hlt]
        refine wq_aload_n q14_97 rfl ?_
        refine wq_aload_n q14_98 rfl ?_
        refine wq_ldcS q14_99 ?_
        refine wq_getS q14_101 ?_
        refine wq_getS q14_104 ?_
        refine wq_aload_n q14_107 rfl ?_
        refine wq_getR q14_108 (by first | exact f1 | exact f3 | rfl) rfl (by first | exact f1 | exact f3 | rfl) ?_
        refine wq_iload_n q14_111 rfl ?_
        refine cV (As := [_, _, _, _, _, _]) q14_112 m_15 rfl rfl (by first | exact f1 | exact f3 | rfl) ⟨by decide, rfl⟩ rfl (c_readItems (j := 1) (n := 35) (at' := S.2.1.1 * 5) (by decide) a2 (by show S.2.1.1 * 5 + 5 ≤ 35; omega) hTn (by omega) (fun p' A' hpi => ?_) (fun q' p' A' hpi hp' => ?_))
        · rw [h2n] at hpi
          rw [show pItems (hi 2) L 1 6 (q + 1) 0 (fU 1) = _ from hpi] at hQ
          refine wq_goto q14_115 ?_
          refine rV q14_192 ?_
          refine hQ p' _ _ rfl ⟨?_, ?_, ?_, fun k hk => ?_, fun k hk => ?_, fun k hk => ?_, sU, fun a ha => ?_⟩
          · rw [upC_o _ _ (by omega), up2_s, vu_s]
          · rw [upC_o _ _ (by omega), up2_s, vu_o _ _ (by decide)]; exact s4
          · rw [upC_o _ _ (by omega), up2_s, vu_o _ _ (by decide)]; exact s5
          · rw [upC_o _ _ (by omega), up2_o _ _ _ (by omega)]; exact sR k hk
          · rw [upC_s]
            dsimp only at hk ⊢
            show ovl (hi' (fo + 2)) (S.2.1.1 * 5) 5 A' k = ovl S.2.1.2 (S.2.1.1 * 5) 5 A' k
            by_cases hk2 : k < S.2.1.1 * 5
            · rw [ovl_out (by omega), ovl_out (by omega)]; exact sC k hk2
            · unfold ovl
              rw [if_pos (by omega), if_pos (by omega)]
          · rw [upC_o _ _ (by omega), up2_o _ _ _ (by omega)]; exact sE k hk
          · simp only [List.mem_cons, List.not_mem_nil, or_false, not_or] at ha
            rw [upC_o _ _ ha.2.2.1, up2_o _ _ _ ha.1]
            exact sS a (by simp only [List.mem_cons, List.not_mem_nil, or_false, not_or]; exact ha)
        · rw [h2n] at hpi
          rw [show pItems (hi 2) L 1 6 (q + 1) 0 (fU 1) = _ from hpi] at hF
          refine wq_goto q14_115 ?_
          refine rV q14_192 ?_
          refine hF q' p' _ rfl hp' (fun a ha => ?_)
          simp only [List.mem_cons, List.not_mem_nil, or_false, not_or] at ha
          rw [upC_o _ _ ha.2.2.1, up2_o _ _ _ ha.1]
          exact sS a (by simp only [List.mem_cons, List.not_mem_nil, or_false, not_or]; exact ha)
  refine wq_iload_n q14_5 rfl ?_
  refine wq_bipush q14_6 ?_
  refine wq_icmp_ne q14_8 (fun c8 => ?_) (fun c8 => ?_)
  · exact second (fun z => c8 z.1) _
  · refine wq_aload_n q14_11 rfl ?_
    refine wq_getI q14_12 (by first | exact f1 | rfl) rfl ?_
    refine wq_if_ne q14_15 (fun c15 => ?_) (fun c15 => ?_)
    · rw [e5] at c15
      exact second (fun z => by rw [z.2] at c15; exact c15 rfl) _
    · rw [e5] at c15
      have hru : S.2.2.2 = false := by
        cases h : S.2.2.2 with
        | false => rfl
        | true => rw [h] at c15; exact absurd c15 (by decide)
      unfold pFCc at hQ hF
      rw [if_pos ⟨c8, hru⟩] at hQ hF
      have hlt : q < L := tat_lt hc (by rw [c8]; decide)
      refine wq_aload_n q14_18 rfl ?_
      refine wq_iconst q14_19 ?_
      refine wq_putI q14_20 (by first | exact f1 | rfl) rfl rfl rfl ?_
      rw [hpS, tpS_up _ _ _ _ _ fo1]
      have hTn : TK (up2 hi' fo 5 1) L := ⟨by rw [up2_o _ _ _ (Ne.symm fo1)]; exact hT'.1, hT'.2.1, by rw [up2_o _ _ _ (Ne.symm fo2)]; exact hT'.2.2⟩
      have h2n : up2 hi' fo 5 1 2 = hi 2 := by rw [up2_o _ _ _ (Ne.symm fo2)]; exact h2
      have e1n : up2 hi' fo 5 1 (fo + 1) = hi' (fo + 1) := up2_o _ _ _ (by omega)
      have hself : up2 hi' fo 5 1 = upC (up2 hi' fo 5 1) (fo + 1) (ovl (hi' (fo + 1)) 0 4 (fU 0)) := by
        rw [ovl_self (fun k hk => by rw [Nat.zero_add, sR k hk, sU hru k hk]), upC_self _ _ e1n.symm]
      refine wq_aload_n q14_23 rfl ?_
      refine cV (As := []) q14_24 m_70 rfl rfl rfl ⟨by decide, rfl⟩ rfl (c_pass (by rw [up2_o _ _ _ (Ne.symm fo1)]; exact hL) hLm hs.2 ?_)
      rw [pass_lt hlt, hself]
      refine wq_aload_n q14_27 rfl ?_
      refine wq_aload_n q14_28 rfl ?_
      refine wq_ldcS q14_29 ?_
      refine wq_getS q14_31 ?_
      refine wq_getS q14_34 ?_
      refine wq_aload_n q14_37 rfl ?_
      refine wq_getR q14_38 (by first | exact f1 | exact f2 | rfl) rfl (by first | exact f1 | exact f2 | rfl) ?_
      refine wq_iconst q14_41 ?_
      refine cV (As := [_, _, _, _, _, _]) q14_42 m_15 rfl rfl (by first | exact f1 | exact f2 | rfl) ⟨by decide, rfl⟩ rfl (c_readItems (j := 0) (n := 4) (at' := 0) (by decide) a1 (by decide) hTn (by omega) (fun p' A' hpi => ?_) (fun q' p' A' hpi hp' => ?_))
      · rw [h2n] at hpi
        rw [show pItems (hi 2) L 0 5 (q + 1) 0 (fU 0) = _ from hpi] at hQ
        refine wq_goto q14_45 ?_
        refine rV q14_192 ?_
        refine hQ p' _ _ rfl ⟨?_, ?_, ?_, fun k hk => ?_, fun k hk => ?_, fun k hk => ?_, fun z => absurd (show true = false from z) (by decide), fun a ha => ?_⟩
        · rw [upC_o _ _ (by omega), up2_s, vu_o _ _ (by decide)]; exact s3
        · rw [upC_o _ _ (by omega), up2_s, vu_o _ _ (by decide)]; exact s4
        · rw [upC_o _ _ (by omega), up2_s, vu_s]; rfl
        · rw [upC_s]
          have := ovl_in (F := hi' (fo + 1)) (A := A') (at' := 0) (n := cN 0) (k := k) hk
          rw [Nat.zero_add] at this
          exact this
        · rw [upC_o _ _ (by omega), up2_o _ _ _ (by omega)]; exact sC k hk
        · rw [upC_o _ _ (by omega), up2_o _ _ _ (by omega)]; exact sE k hk
        · simp only [List.mem_cons, List.not_mem_nil, or_false, not_or] at ha
          rw [upC_o _ _ ha.2.1, up2_o _ _ _ ha.1]
          exact sS a (by simp only [List.mem_cons, List.not_mem_nil, or_false, not_or]; exact ha)
      · rw [h2n] at hpi
        rw [show pItems (hi 2) L 0 5 (q + 1) 0 (fU 0) = _ from hpi] at hF
        refine wq_goto q14_45 ?_
        refine rV q14_192 ?_
        refine hF q' p' _ rfl hp' (fun a ha => ?_)
        simp only [List.mem_cons, List.not_mem_nil, or_false, not_or] at ha
        rw [upC_o _ _ ha.2.1, up2_o _ _ _ ha.1]
        exact sS a (by simp only [List.mem_cons, List.not_mem_nil, or_false, not_or]; exact ha)
end READFORT
