/-! THE CLASS reads a fort, a plan -/
section READFORT2
variable {G : ph_G} {d f dr t L p fo : Nat} {hi : Nat → Nat → Int32} {hl : Nat → Nat → Int64} {w : Int32} {Q : Option Value → ph_H → Prop}
theorem Same.tk {S : List Nat} {hi' : Nat → Nat → Int32} (h : Same S hi hi') (h1 : 1 ∉ S) (h2 : 2 ∉ S) (hT : TK hi L) : TK hi' L ∧ hi' 2 = hi 2 := ⟨⟨by rw [h 1 h1]; exact hT.1, hT.2.1, by rw [h 2 h2]; exact hT.2.2⟩, h 2 h2⟩
theorem c_fread_loop (hfo : Fok fo) (hT : TK hi L) : ∀ (m k p : Nat) (S : FS) (hi' : Nat → Nat → Int32), k + m = 240 → p ≤ L → L ≤ p + m → 1 ≤ m → CS fo hi hi' S → FSok S →
    (∀ p' S' hi2 x2, pForts (hi 2) L m p S = .inr (p', S') → p' ≤ L → CS fo hi hi2 S' → FSok S' → wq G (0, 0) (d + 7) 13 60 [some (.ref fo), some (.ref 1), x2] [] (0, 0) (HP (tpS hi2 p' (-1)) hl f dr t) Q) →
    (∀ q p' hi2 x2, pForts (hi 2) L m p S = .inl q → p' ≤ L → q ≤ L → Same [fo, fo + 1, fo + 2, fo + 3] hi hi2 → wq G (0, 0) (d + 7) 13 60 [some (.ref fo), some (.ref 1), x2] [] (0, 0) (HP (tpS hi2 p' (nI q)) hl f dr t) Q) →
    wq G (0, 0) (d + 7) 13 30 [some (.ref fo), some (.ref 1), some (.int (nI k))] [] (0, 0) (HP (tpS hi' p (-1)) hl f dr t) Q := by
  have hLm := hT.2.1
  intro m
  induction m with
  | zero => intro k p S hi' hm hp hL hm1; omega
  | succ m ih =>
    intro k p S hi' hm hp hLp _ hS hok hQ hF
    have hfc := pFC_ok (b := hi 2) hp hok
    obtain ⟨f1, -⟩ := hfo.frt (tpS hi' p (-1)) hl f dr t
    rw [pForts] at hQ hF
    refine wq_iload_n q13_30 rfl ?_
    refine wq_sipush q13_31 ?_
    refine wq_icmp_ge q13_34 (fun c34 => ?_) (fun c34 => ?_)
    · rw [show (240 : Int32) = nI 240 from rfl, nI_leI (by omega) (by omega)] at c34
      omega
    · refine wq_aload_n q13_37 rfl ?_
      refine wq_aload_n q13_38 rfl ?_
      refine cV (As := [_]) q13_39 m_14 rfl rfl (by first | exact f1 | rfl) ⟨by decide, rfl⟩ rfl (c_fClause hfo hT hS hok hp (fun p1 S1 hi2 h1 hS1 => ?_) (fun q1 p1 hi2 h1 hp1 hs1 => ?_))
      · obtain ⟨g1, g2, g3⟩ := hfc.2 p1 S1 h1
        obtain ⟨hT2, h22⟩ := hS1.tk hfo hT
        have hsk := tpSkip_le (b := hi 2) g2
        rw [h1, pB_r] at hQ hF
        refine wq_aload_n q13_42 rfl ?_
        refine wq_bipush q13_43 ?_
        refine cV (As := [_]) q13_45 m_71 rfl rfl rfl ⟨by decide, rfl⟩ rfl (c_takes hT2.1 hLm g2 ?_)
        rw [h22, tat_here]
        by_cases h59 : tat (hi 2) L (tpSkip (hi 2) L p1) = 59
        · rw [if_pos h59] at hQ hF
          rw [if_pos h59, if_pos h59]
          have hlt := tat_lt h59 (by decide)
          rw [pass_lt hlt]
          refine wq_if_ne q13_48 (fun c48 => ?_) (fun c48 => ?_)
          · refine wq_iinc (ls' := [_, _, _]) q13_54 rfl rfl ?_
            refine wq_goto q13_57 ?_
            rw [nI_1]
            by_cases hm0 : m = 0
            · omega
            · exact ih (k + 1) _ S1 hi2 (by omega) (by omega) (by omega) (by omega) hS1 g3 hQ hF
          · exact absurd c48 (by decide)
        · rw [if_neg h59] at hQ
          rw [if_neg h59, if_neg h59]
          refine wq_if_ne q13_48 (fun c48 => ?_) (fun c48 => ?_)
          · exact absurd rfl c48
          · refine wq_goto q13_51 ?_
            exact hQ _ S1 hi2 _ rfl hsk.2 hS1 g3
      · have hq1 := hfc.1 q1 h1
        obtain ⟨hT2, h22⟩ := hs1.tk hfo.in4.1 hfo.in4.2 hT
        rw [h1] at hF
        have hw1 : ¬ nI q1 = -1 := nI_nm1 (by omega)
        refine wq_aload_n q13_42 rfl ?_
        refine wq_bipush q13_43 ?_
        refine cV (As := [_]) q13_45 m_71 rfl rfl rfl ⟨by decide, rfl⟩ rfl (c_takes hT2.1 hLm hp1 ?_)
        rw [here_w hw1, if_neg (by decide), if_neg (by decide), h22]
        refine wq_if_ne q13_48 (fun c48 => ?_) (fun c48 => ?_)
        · exact absurd rfl c48
        · refine wq_goto q13_51 ?_
          exact hF q1 _ hi2 _ rfl (tpSkip_le hp1).2 hq1 hs1
/-- a fort is read into the draft -/
theorem c_fread (hfo : Fok fo) (hT : TK hi L)
    (hQ : ∀ p' S' hi2, pFortT (hi 2) L = .inr (p', S') → CS fo hi hi2 S' → Q none (HP (tpS hi2 p' (-1)) hl f dr t))
    (hF : ∀ q p' hi2, pFortT (hi 2) L = .inl q → p' ≤ L → q ≤ L → Same [fo, fo + 1, fo + 2, fo + 3] hi hi2 → Q none (HP (tpS hi2 p' (nI q)) hl f dr t)) :
    Ct G (0, 0) (d + 7) 13 [.ref fo, .ref 1] (HP (tpS hi 0 (-1)) hl f dr t) Q := by
  have hLm := hT.2.1
  obtain ⟨a1, a2, a3, fo1, fo2⟩ := hfo.arK
  obtain ⟨f1, f2, f3, f4, f5, f6, f7⟩ := hfo.frt (tpS hi 0 (-1)) hl f dr t
  have h0 := pForts_ok (b := hi 2) (L := L) 240 0 fS0 (Nat.zero_le _) fS0_ok
  have good : ∀ p' S' hi2 x2, pForts (hi 2) L 240 0 fS0 = .inr (p', S') → p' ≤ L → CS fo hi hi2 S' → FSok S' → wq G (0, 0) (d + 7) 13 60 [some (.ref fo), some (.ref 1), x2] [] (0, 0) (HP (tpS hi2 p' (-1)) hl f dr t) Q := by
    intro p' S' hi2 x2 hps hp' hS hok
    obtain ⟨hT2, h22⟩ := hS.tk hfo hT
    have hsk := tpSkip_le (b := hi 2) hp'
    have hid := tpSkip_id (b := hi 2) hp'
    have hE : pFortT (hi 2) L = pFortE (hi 2) L p' S' := by unfold pFortT; rw [hps]; rfl
    obtain ⟨s3, s4, s5, sR, sC, sE, sU, sS⟩ := hS
    have n7 := hok.2.1
    have n6 := hok.2.2.2.1
    have e3 : ∀ p w, hI (HP (tpS hi2 p w) hl f dr t) fo 3 = nI S'.2.1.1 := fun p w => by show tpS hi2 p w fo 3 = _; rw [tpS_o _ _ _ fo1]; exact s3
    have e4 : ∀ p w, hI (HP (tpS hi2 p w) hl f dr t) fo 4 = nI S'.2.2.1.1 := fun p w => by show tpS hi2 p w fo 4 = _; rw [tpS_o _ _ _ fo1]; exact s4
    have eW : ∀ p w, hI (HP (tpS hi2 p w) hl f dr t) (fo + 1) 0 = S'.1 0 := fun p w => by show tpS hi2 p w (fo + 1) 0 = _; rw [tpS_o _ _ _ (by rcases hfo with rfl | rfl <;> decide)]; exact sR 0 (by decide)
    generalize hw : (if tat (hi 2) L (tpSkip (hi 2) L p') = -1 then (-1 : Int32) else nI (tpSkip (hi 2) L p')) = w1
    have failw : tpF w1 (tpSkip (hi 2) L p') = nI (tpSkip (hi 2) L p') := by
      rw [← hw]
      by_cases h : tat (hi 2) L (tpSkip (hi 2) L p') = -1
      · rw [if_pos h, tpF_1]
      · rw [if_neg h, tpF_w (nI_nm1 (by omega))]
    have fail : ¬ (tat (hi 2) L (tpSkip (hi 2) L p') = -1 ∧ 2 ≤ S'.2.1.1 ∧ 1 ≤ S'.2.2.1.1 ∧ S'.1 0 < nI S'.2.1.1) → wq G (0, 0) (d + 7) 13 91 [some (.ref fo), some (.ref 1), x2] [] (0, 0) (HP (tpS hi2 (tpSkip (hi 2) L p') w1) hl f dr t) Q := by
      intro hn
      unfold pFortE at hE
      rw [if_neg hn] at hE
      refine wq_aload_n q13_91 rfl ?_
      refine cV (As := []) q13_92 m_74 rfl rfl rfl ⟨by decide, rfl⟩ rfl (c_fail hT2.1 hLm hsk.2 ?_)
      refine rV q13_95 ?_
      rw [h22, hid, failw]
      exact hF _ _ hi2 hE hsk.2 hsk.2 sS
    refine wq_aload_n q13_60 rfl ?_
    refine cV (As := []) q13_61 m_73 rfl rfl rfl ⟨by decide, rfl⟩ rfl (c_expectEnd hT2.1 hLm hp' ?_)
    rw [h22, tat_here, tpF_1, hw]
    refine wq_aload_n q13_64 rfl ?_
    refine wq_getI q13_65 (by first | exact f1 | rfl) rfl ?_
    refine wq_iconst q13_68 ?_
    refine wq_icmp_lt q13_69 (fun c69 => ?_) (fun c69 => ?_)
    · rw [e3, show (2 : Int32) = nI 2 from rfl, nI_ltI (by omega) (by omega)] at c69
      exact fail (fun z => by omega)
    · rw [e3, show (2 : Int32) = nI 2 from rfl, nI_ltI (by omega) (by omega)] at c69
      refine wq_aload_n q13_72 rfl ?_
      refine wq_getI q13_73 (by first | exact f1 | rfl) rfl ?_
      refine wq_iconst q13_76 ?_
      refine wq_icmp_lt q13_77 (fun c77 => ?_) (fun c77 => ?_)
      · rw [e4, show (1 : Int32) = nI 1 from rfl, nI_ltI (by omega) (by omega)] at c77
        exact fail (fun z => by omega)
      · rw [e4, show (1 : Int32) = nI 1 from rfl, nI_ltI (by omega) (by omega)] at c77
        refine wq_aload_n q13_80 rfl ?_
        refine cV (As := []) q13_81 m_16 rfl rfl (by first | exact f1 | rfl) ⟨by decide, rfl⟩ rfl (c_window (by exact hfo.frt _ hl f dr t) ?_)
        rw [eW]
        refine wq_aload_n q13_84 rfl ?_
        refine wq_getI q13_85 (by first | exact f1 | rfl) rfl ?_
        refine wq_icmp_lt q13_88 (fun c88 => ?_) (fun c88 => ?_)
        · rw [e3] at c88
          by_cases h1 : tat (hi 2) L (tpSkip (hi 2) L p') = -1
          · rw [if_pos h1] at hw
            subst hw
            unfold pFortE at hE
            rw [if_pos ⟨h1, by omega, by omega, c88⟩] at hE
            refine rV q13_95 ?_
            exact hQ _ S' hi2 hE ⟨s3, s4, s5, sR, sC, sE, sU, sS⟩
          · rw [if_neg h1] at hw
            subst hw
            unfold pFortE at hE
            rw [if_neg (fun z => h1 z.1)] at hE
            refine rV q13_95 ?_
            exact hF _ _ hi2 hE hsk.2 hsk.2 sS
        · rw [e3] at c88
          exact fail (fun z => c88 z.2.2.2)
  have bad : ∀ q p' hi2 x2, pForts (hi 2) L 240 0 fS0 = .inl q → p' ≤ L → q ≤ L → Same [fo, fo + 1, fo + 2, fo + 3] hi hi2 → wq G (0, 0) (d + 7) 13 60 [some (.ref fo), some (.ref 1), x2] [] (0, 0) (HP (tpS hi2 p' (nI q)) hl f dr t) Q := by
    intro q p' hi2 x2 hps hp' hq hsm
    obtain ⟨hT2, h22⟩ := hsm.tk hfo.in4.1 hfo.in4.2 hT
    have hE : pFortT (hi 2) L = .inl q := by unfold pFortT; rw [hps]; rfl
    have hw1 : ¬ nI q = -1 := nI_nm1 (by omega)
    have hsk := tpSkip_le (b := hi 2) hp'
    have hid := tpSkip_id (b := hi 2) hp'
    have fail : wq G (0, 0) (d + 7) 13 91 [some (.ref fo), some (.ref 1), x2] [] (0, 0) (HP (tpS hi2 (tpSkip (hi 2) L p') (nI q)) hl f dr t) Q := by
      refine wq_aload_n q13_91 rfl ?_
      refine cV (As := []) q13_92 m_74 rfl rfl rfl ⟨by decide, rfl⟩ rfl (c_fail hT2.1 hLm hsk.2 ?_)
      refine rV q13_95 ?_
      rw [h22, hid, tpF_w hw1]
      exact hF _ _ hi2 hE hsk.2 hq hsm
    refine wq_aload_n q13_60 rfl ?_
    refine cV (As := []) q13_61 m_73 rfl rfl rfl ⟨by decide, rfl⟩ rfl (c_expectEnd hT2.1 hLm hp' ?_)
    rw [h22, here_w hw1, if_pos rfl]
    refine wq_aload_n q13_64 rfl ?_
    refine wq_getI q13_65 (by first | exact f1 | rfl) rfl ?_
    refine wq_iconst q13_68 ?_
    refine wq_icmp_lt q13_69 (fun c69 => ?_) (fun c69 => ?_)
    · exact fail
    · refine wq_aload_n q13_72 rfl ?_
      refine wq_getI q13_73 (by first | exact f1 | rfl) rfl ?_
      refine wq_iconst q13_76 ?_
      refine wq_icmp_lt q13_77 (fun c77 => ?_) (fun c77 => ?_)
      · exact fail
      · refine wq_aload_n q13_80 rfl ?_
        refine cV (As := []) q13_81 m_16 rfl rfl (by first | exact f1 | rfl) ⟨by decide, rfl⟩ rfl (c_window (by exact hfo.frt _ hl f dr t) ?_)
        refine wq_aload_n q13_84 rfl ?_
        refine wq_getI q13_85 (by first | exact f1 | rfl) rfl ?_
        refine wq_icmp_lt q13_88 (fun c88 => ?_) (fun c88 => ?_)
        · refine rV q13_95 ?_
          exact hF _ _ hi2 hE hsk.2 hq hsm
        · exact fail
  refine Ct_of (ls := [_, _, _]) m_13.1.2.2.1 (Nat.le_of_ble_eq_true rfl) rfl ?_
  refine wq_aload_n q13_0 rfl ?_
  refine wq_iconst q13_1 ?_
  refine wq_putI q13_2 (by first | exact f1 | exact f2 | rfl) rfl rfl rfl ?_
  refine wq_aload_n q13_5 rfl ?_
  refine wq_iconst q13_6 ?_
  refine wq_putI q13_7 (by first | exact f1 | exact f2 | rfl) rfl rfl rfl ?_
  refine wq_aload_n q13_10 rfl ?_
  refine wq_iconst q13_11 ?_
  refine wq_putI q13_12 (by first | exact f1 | exact f2 | rfl) rfl rfl rfl ?_
  refine wq_getS q13_15 ?_
  refine wq_iconst q13_18 ?_
  refine wq_aload_n q13_19 rfl ?_
  refine wq_getR q13_20 (by first | exact f1 | exact f2 | rfl) rfl (by first | exact f1 | exact f2 | rfl) ?_
  refine wq_iconst q13_23 ?_
  refine wq_iconst q13_24 ?_
  rw [hpS, hpS, hpS, tpS_up _ _ _ _ _ fo1, tpS_up _ _ _ _ _ fo1, tpS_up _ _ _ _ _ fo1]
  refine wq_copyC q13_25 rfl (by exact f5) (by decide) (by decide) (by decide) (by decide) (by decide) rfl ⟨Nat.le.refl, Nat.le.refl, Nat.le_of_ble_eq_true rfl⟩ ?_
  rw [hpC, tpS_upC _ _ _ _ (by rcases hfo with rfl | rfl <;> decide)]
  refine wq_iconst q13_28 ?_
  refine wq_istore_n (ls' := [_, _, _]) q13_29 rfl ?_
  refine c_fread_loop hfo hT 240 0 0 fS0 _ (by omega) (by omega) (by omega) (by omega) ⟨?_, ?_, ?_, fun k hk => ?_, fun k hk => ?_, fun k hk => ?_, fun _ k hk => rfl, fun a ha => ?_⟩ fS0_ok good bad
  · rw [upC_o _ _ (by omega)]
    simp [up2, va_up]
    rfl
  · rw [upC_o _ _ (by omega)]
    simp [up2, va_up]
    rfl
  · rw [upC_o _ _ (by omega)]
    simp [up2, va_up]
    rfl
  · rw [upC_s, show (Int32.toNatClampNeg 0) = 0 from rfl, show (Int32.toNatClampNeg 4) = 4 from rfl, pk_cpy_in (by omega) (show k < 0 + 4 by omega)]
    show ((cS.getD 0 ("", [])).2.getD (0 + (k - 0)) 0) = fU 0 k
    rw [Nat.zero_add, Nat.sub_zero]
    rfl
  · exact absurd hk (by show ¬ k < 0 * 5; omega)
  · exact absurd hk (by show ¬ k < 0 * 2; omega)
  · simp only [List.mem_cons, List.not_mem_nil, or_false, not_or] at ha
    rw [upC_o _ _ ha.2.1, up2_o _ _ _ ha.1, up2_o _ _ _ ha.1, up2_o _ _ _ ha.1]
end READFORT2
section READPLAN
variable {G : ph_G} {d f dr t L p pk : Nat} {hi : Nat → Nat → Int32} {hl : Nat → Nat → Int64} {w : Int32} {Q : Option Value → ph_H → Prop}
/-- plan k's cells -/
theorem Pk_ne {k : Nat} (hk : k < 5) : 16 + 5 * k ≠ 1 ∧ 17 + 5 * k ≠ 1 ∧ 16 + 5 * k ≠ 2 ∧ 17 + 5 * k ≠ 2 ∧ 17 + 5 * k ≠ 16 + 5 * k := by omega
theorem c_digitP (hT : TK hi L) (hp : p ≤ L) (hQ : ∀ p' v, pDig (hi 2) L p = .inr (p', v) → Q (some (.int v)) (HP (tpS hi p' (-1)) hl f dr t)) (hF : ∀ q, pDig (hi 2) L p = .inl q → Q (some (.int 0)) (HP (tpS hi (tpSkip (hi 2) L p) (nI q)) hl f dr t)) : Ct G (0, 0) (d + 2) 77 [.ref 1] (HP (tpS hi p (-1)) hl f dr t) Q := by
  refine c_digit hT.1 hT.2.1 hp (fun r p' w' h => ?_)
  rw [tat_here] at h
  unfold pDig at hQ hF
  by_cases hd : isDg (tat (hi 2) L (tpSkip (hi 2) L p)) = true
  · rw [if_pos hd, pass_lt (tat_dg hd)] at h
    rw [if_pos hd] at hQ
    cases h
    exact hQ _ _ rfl
  · rw [if_neg hd, tpF_1] at h
    rw [if_neg hd] at hF
    cases h
    exact hF _ rfl
theorem c_digitW (hT : TK hi L) (hp : p ≤ L) (hw : ¬ w = -1) (hF : Q (some (.int 0)) (HP (tpS hi (tpSkip (hi 2) L p) w) hl f dr t)) : Ct G (0, 0) (d + 2) 77 [.ref 1] (HP (tpS hi p w) hl f dr t) Q := by
  refine c_digit hT.1 hT.2.1 hp (fun r p' w' h => ?_)
  rw [here_w hw, if_neg (by decide), tpF_w hw] at h
  cases h
  exact hF
theorem upC_T {k : Nat} (hk : k < 5) (F : Nat → Int32) (hT : TK hi L) : TK (upC hi (17 + 5 * k) F) L ∧ upC hi (17 + 5 * k) F 2 = hi 2 := by
  obtain ⟨-, n2, -, n4, -⟩ := Pk_ne hk
  exact ⟨⟨by rw [upC_o _ _ (Ne.symm n2)]; exact hT.1, hT.2.1, by rw [upC_o _ _ (Ne.symm n4)]; exact hT.2.2⟩, upC_o _ _ (Ne.symm n4)⟩
theorem c_pstep {k i : Nat} (hk : k < 5) (hi' : i < 16) (hT : TK hi L) (hp : p ≤ L) {F : Nat → Int32}
    (hQ : ∀ p' s, pStep (hi 2) L p = .inr (p', s) → Q none (HP (tpS (upC hi (17 + 5 * k) (put3 F i s)) p' (-1)) hl f dr t))
    (hF : ∀ q p' F', pStep (hi 2) L p = .inl q → p' ≤ L → Q none (HP (tpS (upC hi (17 + 5 * k) F') p' (nI q)) hl f dr t)) :
    Ct G (0, 0) (d + 5) 51 [.ref (16 + 5 * k), .ref 1, .int (nI (i * 3))] (HP (tpS (upC hi (17 + 5 * k) F) p (-1)) hl f dr t) Q := by
  obtain ⟨n1, n2, n3, n4, n5⟩ := Pk_ne hk
  have hLm := hT.2.1
  obtain ⟨g1, g2, g3, -⟩ := Pk_s hk (tpS (upC hi (17 + 5 * k) F) p (-1)) hl f dr t
  have hs := tpSkip_le (b := hi 2) hp
  have hid := tpSkip_id (b := hi 2) hp
  have TT : ∀ F, TK (upC hi (17 + 5 * k) F) L := fun F => (upC_T hk F hT).1
  have h2 : ∀ F, upC hi (17 + 5 * k) F 2 = hi 2 := fun F => (upC_T hk F hT).2
  have put : ∀ (F : Nat → Int32) (p : Nat) (w : Int32) (j : Nat) (x : Int32), stI (HP (tpS (upC hi (17 + 5 * k) F) p w) hl f dr t) (17 + 5 * k) j x = HP (tpS (upC hi (17 + 5 * k) (va_up F j x)) p w) hl f dr t := fun F p w j x => by
    rw [hpS, tpS_up _ _ _ _ _ n2, up2_C, upC_s, upC_C]
  have ai : nI (i * 3) + 1 = nI (i * 3 + 1) := nI_1 _
  have aj : nI (i * 3) + 2 = nI (i * 3 + 2) := nI_add _ 2
  unfold pStep at hQ hF
  refine Ct_of (ls := [_, _, _, _]) m_51.1.2.2.1 (Nat.le_of_ble_eq_true rfl) rfl ?_
  refine wq_aload_n q51_0 rfl ?_
  refine wq_ldcS q51_1 ?_
  refine cV (As := [_]) q51_3 m_76 rfl rfl rfl ⟨by decide, rfl⟩ rfl (c_letterOf (j := 4) (by decide) (TT _).1 hLm (TT _).2.2 hp ?_)
  refine wq_istore_n (ls' := [_, _, _, _]) q51_6 rfl ?_
  rw [h2, tat_here]
  generalize hq : tpSkip (hi 2) L p = q at hs hid hQ hF
  generalize hc : tat (hi 2) L q = c at hQ hF
  rcases liO_nm (j := 4) (x := c) (by decide) with z | ⟨m, m1, m2, m3⟩
  · rw [z] at hF ⊢
    rw [if_pos rfl] at hF
    refine wq_iload_n q51_7 rfl ?_
    refine wq_iconst q51_8 ?_
    refine wq_icmp_ne q51_9 (fun c9 => ?_) (fun c9 => ?_)
    · exact absurd rfl c9
    · refine wq_aload_n q51_12 rfl ?_
      refine cV (As := []) q51_13 m_74 rfl rfl rfl ⟨by decide, rfl⟩ rfl (c_fail (TT _).1 hLm hs.2 ?_)
      refine rV q51_16 ?_
      rw [h2, hid, tpF_1]
      exact hF q q F rfl hs.2
  · have hm5 : m < 5 := m1
    have hlt : q < L := tat_lt hc (fun z => by have := (cB_ok 4 (by decide) m (by omega)).1; rw [m3, z] at this; exact absurd this (by decide))
    have hd1 := pDig_ok (b := hi 2) (L := L) (p := q + 1) (by omega)
    rw [m2] at hQ hF ⊢
    rw [if_neg (nI_nm1 (by omega))] at hQ hF
    refine wq_iload_n q51_7 rfl ?_
    refine wq_iconst q51_8 ?_
    refine wq_icmp_ne q51_9 (fun c9 => ?_) (fun c9 => ?_)
    · refine wq_aload_n q51_17 rfl ?_
      refine cV (As := []) q51_18 m_70 rfl rfl rfl ⟨by decide, rfl⟩ rfl (c_pass (TT _).1 hLm hs.2 ?_)
      rw [pass_lt hlt]
      refine wq_aload_n q51_21 rfl ?_
      refine wq_getR q51_22 (by first | exact g1 | exact g2 | exact g3 | rfl) rfl (by first | exact g1 | exact g2 | exact g3 | rfl) ?_
      refine wq_iload_n q51_25 rfl ?_
      refine wq_iload_n q51_26 rfl ?_
      refine sI q51_27 (by first | exact g1 | exact g2 | exact g3 | rfl) (rfl) (by omega) (by first | decide | omega) (by first | exact g1 | exact g2 | exact g3 | rfl) ?_
      rw [put]
      refine wq_aload_n q51_28 rfl ?_
      refine wq_getR q51_29 (by first | exact g1 | exact g2 | exact g3 | rfl) rfl (by first | exact g1 | exact g2 | exact g3 | rfl) ?_
      refine wq_iload_n q51_32 rfl ?_
      refine wq_iconst q51_33 ?_
      refine wq_iadd q51_34 ?_
      rw [ai]
      have second : ∀ (F : Nat → Int32) (p : Nat) (w : Int32), p ≤ L → (w = -1 → nI m = 1 → (∀ p' v, pDig (hi 2) L p = .inr (p', v) → Q none (HP (tpS (upC hi (17 + 5 * k) (va_up F (i * 3 + 2) v)) p' (-1)) hl f dr t)) ∧ (∀ q F' p', pDig (hi 2) L p = .inl q → p' ≤ L → Q none (HP (tpS (upC hi (17 + 5 * k) F') p' (nI q)) hl f dr t))) → (w = -1 → ¬ nI m = 1 → Q none (HP (tpS (upC hi (17 + 5 * k) (va_up F (i * 3 + 2) (-1))) p w) hl f dr t)) → (¬ w = -1 → ∀ F' p', p' ≤ L → Q none (HP (tpS (upC hi (17 + 5 * k) F') p' w) hl f dr t)) →
          wq G (0, 0) (d + 5) 51 53 [some (.ref (16 + 5 * k)), some (.ref 1), some (.int (nI (i * 3))), some (.int (nI m))] [] (0, 0) (HP (tpS (upC hi (17 + 5 * k) F) p w) hl f dr t) Q := by
        intro F p w hp K1 K2 K3
        refine wq_aload_n q51_53 rfl ?_
        refine wq_getR q51_54 (by first | exact g1 | exact g2 | exact g3 | rfl) rfl (by first | exact g1 | exact g2 | exact g3 | rfl) ?_
        refine wq_iload_n q51_57 rfl ?_
        refine wq_iconst q51_58 ?_
        refine wq_iadd q51_59 ?_
        rw [aj]
        refine wq_iload_n q51_60 rfl ?_
        refine wq_iconst q51_61 ?_
        refine wq_icmp_ne q51_62 (fun c62 => ?_) (fun c62 => ?_)
        · refine wq_iconst q51_72 ?_
          refine sI q51_73 (by first | exact g1 | exact g2 | exact g3 | rfl) (rfl) (by omega) (by first | decide | omega) (by first | exact g1 | exact g2 | exact g3 | rfl) ?_
          refine rV q51_74 ?_
          rw [put]
          by_cases hw : w = -1
          · exact K2 hw c62
          · exact K3 hw _ _ hp
        · by_cases hw : w = -1
          · subst hw
            refine wq_aload_n q51_65 rfl ?_
            refine cV (As := []) q51_66 m_77 rfl rfl rfl ⟨by decide, rfl⟩ rfl (c_digitP (TT _) hp (fun p' v hd => ?_) (fun q' hd => ?_))
            · rw [h2] at hd
              refine wq_goto q51_69 ?_
              refine sI q51_73 (by first | exact g1 | exact g2 | exact g3 | rfl) (rfl) (by omega) (by first | decide | omega) (by first | exact g1 | exact g2 | exact g3 | rfl) ?_
              refine rV q51_74 ?_
              rw [put]
              exact (K1 rfl c62).1 p' v hd
            · rw [h2] at hd ⊢
              refine wq_goto q51_69 ?_
              refine sI q51_73 (by first | exact g1 | exact g2 | exact g3 | rfl) (rfl) (by omega) (by first | decide | omega) (by first | exact g1 | exact g2 | exact g3 | rfl) ?_
              refine rV q51_74 ?_
              rw [put]
              exact (K1 rfl c62).2 q' _ _ hd (tpSkip_le hp).2
          · refine wq_aload_n q51_65 rfl ?_
            refine cV (As := []) q51_66 m_77 rfl rfl rfl ⟨by decide, rfl⟩ rfl (c_digitW (TT _) hp hw ?_)
            rw [h2]
            refine wq_goto q51_69 ?_
            refine sI q51_73 (by first | exact g1 | exact g2 | exact g3 | rfl) (rfl) (by omega) (by first | decide | omega) (by first | exact g1 | exact g2 | exact g3 | rfl) ?_
            refine rV q51_74 ?_
            rw [put]
            exact K3 hw _ _ (tpSkip_le hp).2
      have viaD : (nI m = 0 ∨ nI m = 1) → wq G (0, 0) (d + 5) 51 44 [some (.ref (16 + 5 * k)), some (.ref 1), some (.int (nI (i * 3))), some (.int (nI m))] [.int (nI (i * 3 + 1)), .ref (17 + 5 * k)] (0, 0) (HP (tpS (upC hi (17 + 5 * k) (va_up F (i * 3) (nI m))) (q + 1) (-1)) hl f dr t) Q := by
        intro hm01
        refine wq_aload_n q51_44 rfl ?_
        refine cV (As := []) q51_45 m_77 rfl rfl rfl ⟨by decide, rfl⟩ rfl (c_digitP (TT _) (by omega) (fun p' v hd => ?_) (fun q' hd => ?_))
        · rw [h2] at hd
          have hp' := hd1.2 p' v hd
          have hd2 := pDig_ok (b := hi 2) (L := L) hp'.2
          refine wq_goto q51_48 ?_
          refine sI q51_52 (by first | exact g1 | exact g2 | exact g3 | rfl) (rfl) (by omega) (by first | decide | omega) (by first | exact g1 | exact g2 | exact g3 | rfl) ?_
          rw [put]
          rcases hm01 with h0 | h1
          · rw [h0] at hQ hF ⊢
            rw [if_pos rfl, hd, pB_r] at hQ
            rw [h0] at second
            exact second _ _ _ hp'.2 (fun _ z => absurd z (by decide)) (fun _ _ => hQ p' (0, v, -1) rfl) (fun z => absurd rfl z)
          · rw [h1] at hQ hF ⊢
            rw [if_neg (by decide), if_pos rfl, hd, pB_r] at hQ hF
            rw [h1] at second
            refine second _ _ _ hp'.2 (fun _ _ => ⟨fun p2 v2 hdd => ?_, fun q2 F2 p2 hdd hp2 => ?_⟩) (fun _ z => absurd rfl z) (fun z => absurd rfl z)
            · rw [hdd] at hQ
              exact hQ p2 (1, v, v2) rfl
            · rw [hdd] at hF
              exact hF q2 p2 F2 rfl hp2
        · rw [h2] at hd ⊢
          have hq' := hd1.1 q' hd
          refine wq_goto q51_48 ?_
          refine sI q51_52 (by first | exact g1 | exact g2 | exact g3 | rfl) (rfl) (by omega) (by first | decide | omega) (by first | exact g1 | exact g2 | exact g3 | rfl) ?_
          rw [put]
          refine second _ _ _ (tpSkip_le (by omega)).2 (fun z => absurd z (nI_nm1 (by omega))) (fun z => absurd z (nI_nm1 (by omega))) (fun _ F' p' hp' => ?_)
          rcases hm01 with h0 | h1
          · rw [h0, if_pos rfl, hd] at hF
            exact hF q' p' F' rfl hp'
          · rw [h1, if_neg (by decide), if_pos rfl, hd] at hF
            exact hF q' p' F' rfl hp'
      refine wq_iload_n q51_35 rfl ?_
      refine wq_if_eq q51_36 (fun c36 => ?_) (fun c36 => ?_)
      · exact viaD (Or.inl c36)
      · refine wq_iload_n q51_39 rfl ?_
        refine wq_iconst q51_40 ?_
        refine wq_icmp_ne q51_41 (fun c41 => ?_) (fun c41 => ?_)
        · rw [if_neg c36, if_neg c41] at hQ
          refine wq_iconst q51_51 ?_
          refine sI q51_52 (by first | exact g1 | exact g2 | exact g3 | rfl) (rfl) (by omega) (by first | decide | omega) (by first | exact g1 | exact g2 | exact g3 | rfl) ?_
          rw [put]
          exact second _ _ _ hlt (fun _ z => absurd z c41) (fun _ _ => hQ (q + 1) (nI m, -1, -1) rfl) (fun z => absurd rfl z)
        · exact viaD (Or.inr c41)
    · exact absurd c9 (nI_nm1 (by omega))
/-- a plan's cells while it is read -/
def plB (hi : Nat → Nat → Int32) (k : Nat) (x : Int32) (F : Nat → Int32) : Nat → Nat → Int32 := upC (up2 hi (16 + 5 * k) 1 x) (17 + 5 * k) F
theorem plB_T {k : Nat} (hk : k < 5) (x : Int32) (F : Nat → Int32) (hT : TK hi L) : TK (plB hi k x F) L ∧ plB hi k x F 2 = hi 2 := by
  obtain ⟨n1, n2, n3, n4, n5⟩ := Pk_ne hk
  have h1 : TK (up2 hi (16 + 5 * k) 1 x) L := ⟨by rw [up2_o _ _ _ (Ne.symm n1)]; exact hT.1, hT.2.1, by rw [up2_o _ _ _ (Ne.symm n3)]; exact hT.2.2⟩
  have h2 := upC_T hk F h1
  refine ⟨h2.1, ?_⟩
  rw [show plB hi k x F 2 = up2 hi (16 + 5 * k) 1 x 2 from h2.2, up2_o _ _ _ (Ne.symm n3)]
theorem c_pread_loop {k : Nat} (hk : k < 5) (hT : TK hi L) : ∀ (m i p : Nat) (P F : Nat → Int32), i + m = 16 → 1 ≤ m → p ≤ L → (∀ j, j < i * 3 → F j = P j) →
    (∀ p1 p' n P' F' x2, pSteps (hi 2) L m i p P = .inr (p', (n, P')) → p1 ≤ L → tpSkip (hi 2) L p1 = tpSkip (hi 2) L p' → (∀ j, j < n * 3 → F' j = P' j) → wq G (0, 0) (d + 6) 50 57 [some (.ref (16 + 5 * k)), some (.ref 1), x2] [] (0, 0) (HP (tpS (plB hi k (nI n) F') p1 (-1)) hl f dr t) Q) →
    (∀ q p' n F' x2, pSteps (hi 2) L m i p P = .inl q → p' ≤ L → q ≤ L → wq G (0, 0) (d + 6) 50 57 [some (.ref (16 + 5 * k)), some (.ref 1), x2] [] (0, 0) (HP (tpS (plB hi k n F') p' (nI q)) hl f dr t) Q) →
    wq G (0, 0) (d + 6) 50 7 [some (.ref (16 + 5 * k)), some (.ref 1), some (.int (nI i))] [] (0, 0) (HP (tpS (plB hi k (nI i) F) p (-1)) hl f dr t) Q := by
  obtain ⟨n1, n2, n3, n4, n5⟩ := Pk_ne hk
  have hLm := hT.2.1
  intro m
  induction m with
  | zero => intro i p P F hm hm1; omega
  | succ m ih =>
    intro i p P F hm _ hp hR hQ hF
    have hst := pStep_ok (b := hi 2) hp
    obtain ⟨g1, g2, g3, -⟩ := Pk_s hk (tpS (plB hi k (nI i) F) p (-1)) hl f dr t
    have hT1 : TK (up2 hi (16 + 5 * k) 1 (nI i)) L := ⟨by rw [up2_o _ _ _ (Ne.symm n1)]; exact hT.1, hT.2.1, by rw [up2_o _ _ _ (Ne.symm n3)]; exact hT.2.2⟩
    have h21 : up2 hi (16 + 5 * k) 1 (nI i) 2 = hi 2 := up2_o _ _ _ (Ne.symm n3)
    have est : ∀ F p w, hI (HP (tpS (plB hi k (nI i) F) p w) hl f dr t) (16 + 5 * k) 1 = nI i := fun F p w => by
      show tpS (plB hi k (nI i) F) p w (16 + 5 * k) 1 = _
      rw [tpS_o _ _ _ n1]
      unfold plB
      rw [upC_o _ _ (Ne.symm n5), up2_s, vu_s]
    have put : ∀ F p w, stI (HP (tpS (plB hi k (nI i) F) p w) hl f dr t) (16 + 5 * k) 1 (nI (i + 1)) = HP (tpS (plB hi k (nI (i + 1)) F) p w) hl f dr t := fun F p w => by
      rw [hpS, tpS_up _ _ _ _ _ n1]
      unfold plB
      rw [up2_C, upC_o _ _ (Ne.symm n5), upC_comm _ _ _ n5, ← up2_C, up2_uu]
    rw [pSteps] at hQ hF
    refine wq_iload_n q50_7 rfl ?_
    refine wq_bipush q50_8 ?_
    refine wq_icmp_ge q50_10 (fun c10 => ?_) (fun c10 => ?_)
    · rw [show (16 : Int32) = nI 16 from rfl, nI_leI (by omega) (by omega)] at c10
      omega
    · refine wq_aload_n q50_13 rfl ?_
      refine wq_aload_n q50_14 rfl ?_
      refine wq_iload_n q50_15 rfl ?_
      refine wq_iconst q50_16 ?_
      refine wq_imul q50_17 ?_
      rw [show nI i * (3 : Int32) = nI (i * 3) from pk_mul i 3]
      refine cV (As := [_, _]) q50_18 m_51 rfl rfl (by first | exact g1 | rfl) ⟨by decide, rfl⟩ rfl (c_pstep hk (by omega) hT1 hp (fun p1 s1 h1 => ?_) (fun q1 p1 F1 h1 hp1 => ?_))
      · rw [h21] at h1
        obtain ⟨k1, k2, -⟩ := hst.2 p1 s1 h1
        have hsk := tpSkip_le (b := hi 2) k2
        rw [h1, pB_r] at hQ hF
        have hR' : ∀ j, j < (i + 1) * 3 → put3 F i s1 j = put3 P i s1 j := fun j hj => by
          by_cases hji : j < i * 3
          · rw [put3_o (Or.inl hji), put3_o (Or.inl hji)]; exact hR j hji
          · have : j = i * 3 ∨ j = i * 3 + 1 ∨ j = i * 3 + 2 := by omega
            rcases this with rfl | rfl | rfl
            · rw [put3_0, put3_0]
            · rw [put3_1, put3_1]
            · rw [put3_2, put3_2]
        show wq G (0, 0) (d + 6) 50 21 _ _ _ (HP (tpS (plB hi k (nI i) (put3 F i s1)) p1 (-1)) hl f dr t) Q
        refine wq_aload_n q50_21 rfl ?_
        refine wq_dup q50_22 rfl ?_
        refine wq_getI q50_23 (by first | exact g1 | rfl) rfl ?_
        refine wq_iconst q50_26 ?_
        refine wq_iadd q50_27 ?_
        refine wq_putI q50_28 (by first | exact g1 | rfl) rfl rfl rfl ?_
        rw [est, nI_1, put]
        refine wq_iload_n q50_31 rfl ?_
        refine wq_iconst q50_32 ?_
        refine wq_iadd q50_33 ?_
        refine wq_bipush q50_34 ?_
        refine wq_icmp_eq q50_36 (fun c36 => ?_) (fun c36 => ?_)
        · rw [nI_1, show (16 : Int32) = nI 16 from rfl, nI_eq (by omega) (by omega)] at c36
          rw [if_neg (fun z => z.1 (by omega))] at hQ
          exact hQ p1 _ _ _ _ _ rfl k2 (tpSkip_id k2).symm hR'
        · rw [nI_1, show (16 : Int32) = nI 16 from rfl, nI_eq (by omega) (by omega)] at c36
          obtain ⟨hT2, h22⟩ := plB_T hk (nI (i + 1)) (put3 F i s1) hT
          refine wq_aload_n q50_39 rfl ?_
          refine wq_bipush q50_40 ?_
          refine cV (As := [_]) q50_42 m_71 rfl rfl rfl ⟨by decide, rfl⟩ rfl (c_takes hT2.1 hLm k2 ?_)
          rw [h22, tat_here]
          by_cases h59 : tat (hi 2) L (tpSkip (hi 2) L p1) = 59
          · rw [if_pos ⟨by omega, h59⟩] at hQ hF
            rw [if_pos h59, if_pos h59, pass_lt (tat_lt h59 (by decide))]
            have hlt := tat_lt h59 (by decide)
            refine wq_if_ne q50_45 (fun c45 => ?_) (fun c45 => ?_)
            · refine wq_iinc (ls' := [_, _, _]) q50_51 rfl rfl ?_
              refine wq_goto q50_54 ?_
              rw [nI_1]
              exact ih (i + 1) _ (put3 P i s1) (put3 F i s1) (by omega) (by omega) (by omega) hR' hQ hF
            · exact absurd c45 (by decide)
          · rw [if_neg (fun z => h59 z.2)] at hQ
            rw [if_neg h59, if_neg h59]
            refine wq_if_ne q50_45 (fun c45 => ?_) (fun c45 => ?_)
            · exact absurd rfl c45
            · refine wq_goto q50_48 ?_
              exact hQ _ _ _ _ _ _ rfl hsk.2 rfl hR'
      · rw [h21] at h1
        have hq1 := hst.1 q1 h1
        have hw1 : ¬ nI q1 = -1 := nI_nm1 (by omega)
        rw [h1] at hF
        show wq G (0, 0) (d + 6) 50 21 _ _ _ (HP (tpS (plB hi k (nI i) F1) p1 (nI q1)) hl f dr t) Q
        refine wq_aload_n q50_21 rfl ?_
        refine wq_dup q50_22 rfl ?_
        refine wq_getI q50_23 (by first | exact g1 | rfl) rfl ?_
        refine wq_iconst q50_26 ?_
        refine wq_iadd q50_27 ?_
        refine wq_putI q50_28 (by first | exact g1 | rfl) rfl rfl rfl ?_
        rw [est, nI_1, put]
        refine wq_iload_n q50_31 rfl ?_
        refine wq_iconst q50_32 ?_
        refine wq_iadd q50_33 ?_
        refine wq_bipush q50_34 ?_
        refine wq_icmp_eq q50_36 (fun c36 => ?_) (fun c36 => ?_)
        · exact hF q1 p1 _ _ _ rfl hp1 hq1
        · obtain ⟨hT2, h22⟩ := plB_T hk (nI (i + 1)) F1 hT
          refine wq_aload_n q50_39 rfl ?_
          refine wq_bipush q50_40 ?_
          refine cV (As := [_]) q50_42 m_71 rfl rfl rfl ⟨by decide, rfl⟩ rfl (c_takes hT2.1 hLm hp1 ?_)
          rw [here_w hw1, if_neg (by decide), if_neg (by decide), h22]
          refine wq_if_ne q50_45 (fun c45 => ?_) (fun c45 => ?_)
          · exact absurd rfl c45
          · refine wq_goto q50_48 ?_
            exact hF q1 _ _ _ _ rfl (tpSkip_le hp1).2 hq1
/-- a plan is read -/
theorem c_pread {k : Nat} (hk : k < 5) (hT : TK hi L)
    (hQ : ∀ p' n P F, pPlanT (hi 2) L = .inr (p', (n, P)) → (∀ j, j < n * 3 → F j = P j) → Q none (HP (tpS (plB hi k (nI n) F) p' (-1)) hl f dr t))
    (hF : ∀ q p' n F, pPlanT (hi 2) L = .inl q → p' ≤ L → q ≤ L → Q none (HP (tpS (plB hi k n F) p' (nI q)) hl f dr t)) :
    Ct G (0, 0) (d + 6) 50 [.ref (16 + 5 * k), .ref 1] (HP (tpS hi 0 (-1)) hl f dr t) Q := by
  obtain ⟨n1, n2, n3, n4, n5⟩ := Pk_ne hk
  have hLm := hT.2.1
  obtain ⟨g1, g2, g3, -⟩ := Pk_s hk (tpS hi 0 (-1)) hl f dr t
  have h0 := pSteps_ok (b := hi 2) (L := L) 16 0 0 (fun _ => 0) (Nat.zero_le _) (fun i hi => by omega) (by decide)
  refine Ct_of (ls := [_, _, _]) m_50.1.2.2.1 (Nat.le_of_ble_eq_true rfl) rfl ?_
  refine wq_aload_n q50_0 rfl ?_
  refine wq_iconst q50_1 ?_
  refine wq_putI q50_2 (by first | exact g1 | rfl) rfl rfl rfl ?_
  refine wq_iconst q50_5 ?_
  refine wq_istore_n (ls' := [_, _, _]) q50_6 rfl ?_
  rw [hpS, tpS_up _ _ _ _ _ n1]
  have hself : up2 hi (16 + 5 * k) 1 0 = plB hi k (nI 0) (hi (17 + 5 * k)) := by
    unfold plB
    rw [upC_self]
    · rfl
    · rw [up2_o _ _ _ n5]
  rw [hself]
  refine c_pread_loop hk hT 16 0 0 (fun _ => 0) _ (by omega) (by omega) (by omega) (fun j hj => by omega) (fun p1 p' n P' F' x2 h1 hp1 hsk hR => ?_) (fun q p' n F' x2 h1 hp1 hq => ?_)
  · obtain ⟨hT2, h22⟩ := plB_T hk (nI n) F' hT
    have hp' := (h0.2 p' _ h1).1
    have hE : pPlanT (hi 2) L = if tat (hi 2) L (tpSkip (hi 2) L p') = -1 then pok (tpSkip (hi 2) L p') (n, P') else pno (tpSkip (hi 2) L p') := by unfold pPlanT pFin; rw [h1]; rfl
    refine wq_aload_n q50_57 rfl ?_
    refine cV (As := []) q50_58 m_73 rfl rfl rfl ⟨by decide, rfl⟩ rfl (c_expectEnd hT2.1 hLm hp1 ?_)
    rw [h22, tat_here, tpF_1, hsk]
    by_cases he : tat (hi 2) L (tpSkip (hi 2) L p') = -1
    · rw [if_pos he] at hE ⊢
      refine rV q50_61 ?_
      exact hQ _ n P' F' hE hR
    · rw [if_neg he] at hE ⊢
      refine rV q50_61 ?_
      exact hF _ _ _ F' hE (tpSkip_le hp').2 (tpSkip_le hp').2
  · obtain ⟨hT2, h22⟩ := plB_T hk n F' hT
    have hE : pPlanT (hi 2) L = .inl q := by unfold pPlanT pFin; rw [h1]; rfl
    refine wq_aload_n q50_57 rfl ?_
    refine cV (As := []) q50_58 m_73 rfl rfl rfl ⟨by decide, rfl⟩ rfl (c_expectEnd hT2.1 hLm hp1 ?_)
    rw [h22, here_w (nI_nm1 (by omega)), if_pos rfl]
    refine rV q50_61 ?_
    exact hF q _ _ F' hE (tpSkip_le hp1).2 hq
end READPLAN
