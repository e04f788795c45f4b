/-! THE REFERENCE: what can be, what changes -/
theorem RW.see {n : Nat} {row w : Nat → Int32} (h : RW n row w) (hn : n ≤ 7) (z : Int32) : RW n (va_up row 28 z) (va_up w 28 z) :=
  h.scal hn (fun j hj => vu_o _ _ (by omega)) (fun j hj _ => vu_o _ _ (by omega)) (by rw [vu_s, vu_s]) (by rw [vu_o _ _ (by decide), vu_o _ _ (by decide)]; exact h.2.2.2.2.2.1) (by rw [vu_o _ _ (by decide), vu_o _ _ (by decide)]; exact h.2.2.2.2.2.2.1) (by rw [vu_o _ _ (by decide), vu_o _ _ (by decide)]; exact h.2.2.2.2.2.2.2.1) (by rw [vu_o _ _ (by decide), vu_o _ _ (by decide)]; exact h.2.2.2.2.2.2.2.2)
theorem KN.see {n : Nat} {row w : Nat → Int32} (h : KN n row w) (hn : n ≤ 7) (z : Int32) : KN n (va_up row 28 z) (va_up w 28 z) := fun p hp => by
  rw [vu_o _ _ (by omega), vu_o _ _ (by omega)]
  exact h p hp
theorem RW.renew {n : Nat} {row w : Nat → Int32} (h : RW n row w) (hn : n ≤ 7) {p : Nat} (hp : p < n) (z : Int32) : RW n (va_up (va_up row (7 + p) z) 31 0) (va_up (va_up w (4 * p + 1) z) 30 0) := by
  refine RW.learn (h.bread hn (fun j hj => vu_o _ _ (by omega)) (fun j hj => vu_o _ _ (by omega)) (fun k hk => ?_)) hn 0
  by_cases e : k = p
  · rw [e, vu_s, vu_s]
  · rw [vu_o _ _ (by omega), vu_o _ _ (by omega)]
    exact h.2.2.1 k hk
theorem KN.renew {n : Nat} {row w : Nat → Int32} (h : KN n row w) (hn : n ≤ 7) {p : Nat} (hp : p < n) (z : Int32) : KN n (va_up (va_up row (7 + p) z) 31 0) (va_up (va_up w (4 * p + 1) z) 30 0) := fun q hq => by
  rw [vu_o _ _ (by omega), vu_o _ _ (by omega), vu_o _ _ (by omega), vu_o _ _ (by omega)]
  exact h q hq
theorem edR_know {row : Nat → Int32} {p : Nat} (hp : p < 7) : edR row (21 + p) = 0 := by
  unfold edR edA
  rw [vu_o _ _ (by omega), vu_o _ _ (by omega), vu_o _ _ (by omega), vu_o _ _ (by omega), if_pos (by omega)]
theorem RW.dark {n lg : Nat} {row w w' : Nat → Int32} (h : RW n row w) (hn : n ≤ 7) (hd : DkP n lg w w') : RW n (edR row) w' ∧ KN n (edR row) w' := by
  obtain ⟨d1, d2, d3, d4, d5, d6, -⟩ := hd
  obtain ⟨g1, g2, g3, g4, g5, g6, g7, g8, g9⟩ := h
  refine ⟨⟨fun c hc => ?_, fun p hp => ?_, fun p hp => ?_, fun p hp => ?_, ?_, ?_, ?_, ?_, ?_⟩, fun p hp => ?_⟩
  · obtain ⟨p, hp, k1, k2⟩ := g1 c hc
    exact ⟨p, hp, by rw [edR_low (by omega)]; exact k1, (d1 p hp).1.trans k2⟩
  · obtain ⟨c, hc, k1, k2⟩ := g2 p hp
    exact ⟨c, hc, (d1 p hp).1.trans k1, by rw [edR_low (by omega)]; exact k2⟩
  · rw [edR_low (by omega), (d1 p hp).2.1]; exact g3 p hp
  · rw [edR_low (by omega), (d1 p hp).2.2.1]; exact g4 p hp
  · rw [d2]; rfl
  · rw [d3]; rfl
  · rw [d5, g7]; rfl
  · rw [d4]; rfl
  · rw [d6, g9, edR_32]
  · rw [(d1 p hp).2.2.2, edR_know (by omega)]
section REFACTS
variable {G : ph_G} {d f dr t n r ev wi sz lg : Nat} {hi hi' : Nat → Nat → Int32} {hl : Nat → Nat → Int64} {Q : Option Value → ph_H → Prop} {row : Nat → Int32} {lw : Option Nat}
theorem c_rcanSee {x : Int32} (hr : Wok r) (hQ : Q (some (.int (if (inB x (hi 58 27) && !hsB (hi r 28) x) = true then 1 else 0))) (HP hi hl f dr t)) : Ct G (0, 0) (d + 1) 229 [.ref 58, .ref r, .int x] (HP hi hl f dr t) Q := by
  obtain ⟨hs, -⟩ := hr.sh hi hl f dr t
  refine Ct_of (ls := [_, _, _]) m_229.1.2.2.1 (Nat.le_of_ble_eq_true rfl) rfl ?_
  refine wq_aload_n q229_0 rfl ?_
  refine wq_iload_n q229_1 rfl ?_
  refine cV (As := [_]) q229_2 m_210 rfl rfl rfl ⟨by decide, rfl⟩ rfl (c_risEvent ?_)
  refine wq_if_eq q229_5 (fun c5 => ?_) (fun c5 => ?_)
  · have c := i01 c5
    rw [c] at hQ
    refine wq_iconst q229_23 ?_
    refine rI q229_24 rfl ?_
    exact hQ
  · have c := i10 c5
    rw [c] at hQ
    refine wq_aload_n q229_8 rfl ?_
    refine wq_bipush q229_9 ?_
    refine aI q229_11 (by first | exact hs | rfl) ((show (28 : Int32) = nI 28 from rfl)) (by decide) (by first | decide | omega) ?_
    refine wq_iload_n q229_12 rfl ?_
    refine cS' (As := [_, _]) q229_13 m_171 rfl rfl rfl (c_rhas ?_)
    refine wq_if_ne q229_16 (fun c16 => ?_) (fun c16 => ?_)
    · have c' := i10 c16
      rw [hIH] at c'
      rw [c'] at hQ
      refine wq_iconst q229_23 ?_
      refine rI q229_24 rfl ?_
      exact hQ
    · have c' := i01 c16
      rw [hIH] at c'
      rw [c'] at hQ
      refine wq_iconst q229_19 ?_
      refine wq_goto q229_20 ?_
      refine rI q229_24 rfl ?_
      exact hQ
theorem c_rcanTell (hr : Wok r) (hQ : Q (some (.int (if (decide (0 < hi 58 26) && decide (hi r 29 = 0) && decide (hi r 30 < hi 63 2)) = true then 1 else 0))) (HP hi hl f dr t)) : Ct G (0, 0) (d + 1) 231 [.ref 58, .ref r] (HP hi hl f dr t) Q := by
  obtain ⟨hs, -⟩ := hr.sh hi hl f dr t
  refine Ct_of (ls := [_, _]) m_231.1.2.2.1 (Nat.le_of_ble_eq_true rfl) rfl ?_
  refine wq_aload_n q231_0 rfl ?_
  refine wq_getI q231_1 rfl rfl ?_
  refine wq_if_le q231_4 (fun c4 => ?_) (fun c4 => ?_)
  · rw [hIH] at c4
    rw [decide_eq_false (Int32.not_lt.mpr c4)] at hQ
    refine wq_iconst q231_26 ?_
    refine rI q231_27 rfl ?_
    exact hQ
  · rw [hIH] at c4
    rw [decide_eq_true (Int32.not_le.mp c4)] at hQ
    refine wq_aload_n q231_7 rfl ?_
    refine wq_bipush q231_8 ?_
    refine aI q231_10 (by first | exact hs | rfl) ((show (29 : Int32) = nI 29 from rfl)) (by decide) (by first | decide | omega) ?_
    refine wq_if_ne q231_11 (fun c11 => ?_) (fun c11 => ?_)
    · rw [hIH] at c11
      rw [decide_eq_false c11] at hQ
      refine wq_iconst q231_26 ?_
      refine rI q231_27 rfl ?_
      exact hQ
    · rw [hIH] at c11
      rw [decide_eq_true c11] at hQ
      refine wq_aload_n q231_14 rfl ?_
      refine wq_aload_n q231_15 rfl ?_
      refine cV (As := [_]) q231_16 m_217 rfl rfl rfl ⟨by decide, rfl⟩ rfl (c_risWorn hr ?_)
      refine wq_if_ne q231_19 (fun c19 => ?_) (fun c19 => ?_)
      · have c := p10 c19
        rw [decide_eq_false (Int32.not_lt.mpr c)] at hQ
        refine wq_iconst q231_26 ?_
        refine rI q231_27 rfl ?_
        exact hQ
      · have c := p01 c19
        rw [decide_eq_true (Int32.not_le.mp c)] at hQ
        refine wq_iconst q231_22 ?_
        refine wq_goto q231_23 ?_
        refine rI q231_27 rfl ?_
        exact hQ
theorem c_rcanCode (hr : Wok r) (hn : n ≤ 7) (hn1 : 1 ≤ n) (h26 : hi 58 26 = nI n) (hw : RW n row (hi r)) (hQ : Q (some (.int (if decide (2 ≤ row (7 + riR (fun i => row (7 + i)) (n - 1) 1 0)) = true then 1 else 0))) (HP hi hl f dr t)) : Ct G (0, 0) (d + 1) 238 [.ref 58, .ref r] (HP hi hl f dr t) Q := by
  obtain ⟨hs, -⟩ := hr.sh hi hl f dr t
  have ec : hI (HP hi hl f dr t) 58 26 = nI n := h26
  have hri : riR (fun i => row (7 + i)) (n - 1) 1 0 < n := by
    have := riR_lt (b := fun i => row (7 + i)) (n - 1) 1 0 (Or.inr rfl) (by omega)
    omega
  have ep : hI (HP hi hl f dr t) r (4 * riR (fun i => row (7 + i)) (n - 1) 1 0 + 1) = row (7 + riR (fun i => row (7 + i)) (n - 1) 1 0) := hw.2.2.1 _ hri
  refine Ct_of (ls := [_, _]) m_238.1.2.2.1 (Nat.le_of_ble_eq_true rfl) rfl ?_
  refine wq_aload_n q238_0 rfl ?_
  refine wq_getI q238_1 rfl rfl ?_
  refine wq_if_le q238_4 (fun c4 => ?_) (fun c4 => ?_)
  · rw [ec] at c4
    exact absurd c4 (nI_nle (by omega) (by omega))
  · refine wq_aload_n q238_7 rfl ?_
    refine wq_iconst q238_8 ?_
    refine wq_aload_n q238_9 rfl ?_
    refine wq_aload_n q238_10 rfl ?_
    refine cV (As := [_]) q238_11 m_237 rfl rfl rfl ⟨by decide, rfl⟩ rfl (c_rrichest hr hn hn1 h26 hw ?_)
    refine wq_imul q238_14 ?_
    refine wq_iconst q238_15 ?_
    refine wq_iadd q238_16 ?_
    refine aI q238_17 (by first | exact hs | rfl) (ix1 _) (by show 4 * riR (fun i => row (7 + i)) (n - 1) 1 0 + 1 < 214; omega) (by first | decide | omega) ?_
    rw [ep]
    refine wq_iconst q238_18 ?_
    refine wq_icmp_lt q238_19 (fun c19 => ?_) (fun c19 => ?_)
    · rw [decide_eq_false (Int32.not_le.mpr c19)] at hQ
      refine wq_iconst q238_26 ?_
      refine rI q238_27 rfl ?_
      exact hQ
    · rw [decide_eq_true (Int32.not_lt.mp c19)] at hQ
      refine wq_iconst q238_22 ?_
      refine wq_goto q238_23 ?_
      refine rI q238_27 rfl ?_
      exact hQ
/-- a code anew -/
theorem c_renews (hr : Wok r) (hn : n ≤ 7) (hn1 : 1 ≤ n) (h26 : hi 58 26 = nI n) (hw : RW n row (hi r)) {p : Nat} (ep : p = riR (fun i => row (7 + i)) (n - 1) 1 0) (hp : p < n) (hQ : Q (some (.int (nI p))) (HP (upC hi r (va_up (va_up (hi r) (4 * p + 1) (row (7 + p) - 2)) 30 0)) hl f dr t)) : Ct G (0, 0) (d + 1) 239 [.ref 58, .ref r] (HP hi hl f dr t) Q := by
  obtain ⟨hs, -⟩ := hr.sh hi hl f dr t
  have e1 : hI (HP hi hl f dr t) r (4 * p + 1) = row (7 + p) := hw.2.2.1 _ hp
  refine Ct_of (ls := [_, _, _]) m_239.1.2.2.1 (Nat.le_of_ble_eq_true rfl) rfl ?_
  refine wq_aload_n q239_0 rfl ?_
  refine wq_aload_n q239_1 rfl ?_
  refine cV (As := [_]) q239_2 m_237 rfl rfl rfl ⟨by decide, rfl⟩ rfl (c_rrichest hr hn hn1 h26 hw ?_)
  rw [← ep]
  refine wq_istore_n (ls' := [_, _, _]) q239_5 rfl ?_
  refine wq_aload_n q239_6 rfl ?_
  refine wq_iconst q239_7 ?_
  refine wq_iload_n q239_8 rfl ?_
  refine wq_imul q239_9 ?_
  refine wq_iconst q239_10 ?_
  refine wq_iadd q239_11 ?_
  refine wq_dup2 q239_12 rfl rfl ?_
  refine aI q239_13 (by first | exact hs | rfl) (ix1 p) (by show 4 * p + 1 < 214; omega) (by first | decide | omega) ?_
  rw [e1]
  refine wq_iconst q239_14 ?_
  refine wq_isub q239_15 ?_
  refine sI q239_16 (by first | exact hs | rfl) (ix1 p) (by show 4 * p + 1 < 214; omega) (by first | decide | omega) (by first | exact hs | rfl) ?_
  rw [hpS, up2_C]
  obtain ⟨hs2, -⟩ := hr.sh (upC hi r (va_up (hi r) (4 * p + 1) (row (7 + p) - 2))) hl f dr t
  refine wq_aload_n q239_17 rfl ?_
  refine wq_bipush q239_18 ?_
  refine wq_iconst q239_20 ?_
  refine sI q239_21 (by first | exact hs2 | rfl) ((show (30 : Int32) = nI 30 from rfl)) (by decide) (by first | decide | omega) (by first | exact hs2 | rfl) ?_
  rw [hpS, up2_C, upC_s, upC_C]
  refine wq_iload_n q239_22 rfl ?_
  refine rI q239_23 rfl ?_
  exact hQ
theorem hf3 (hF : RF hi f lw sz n ev wi) : decide (0 < hi f 3) = true := by
  have h1 := hF.2.1.1
  have h2 := hF.2.1.2.1
  rw [hF.2.1.2.2.2.2.1]
  exact decide_eq_true (nI_lt (a := 0) (b := n) (by omega) (by omega))
/-- can a step be -/
theorem c_rcanStep {kd fi se : Int32} {q : Nat} (hF : RF hi f lw sz n ev wi) (hr : Wok r) (hw : RW n row (hi r)) (hq : q + 2 < 240) (e0 : hi 69 q = kd) (e1 : hi 69 (q + 1) = fi) (e2 : hi 69 (q + 2) = se) (hQ : Q (some (.int (if canB hi f row n kd fi se = true then 1 else 0))) (HP hi hl f dr t)) : Ct G (0, 0) (d + 2) 250 [.ref 58, .ref r, .int (nI q)] (HP hi hl f dr t) Q := by
  obtain ⟨hs, -⟩ := hr.sh hi hl f dr t
  have h0 := hf3 hF
  have hn := hF.2.1.1
  have hn1 := hF.2.1.2.1
  have x0 : hI (HP hi hl f dr t) 69 q = kd := e0
  have x1 : hI (HP hi hl f dr t) 69 (q + 1) = fi := e1
  have x2 : hI (HP hi hl f dr t) 69 (q + 2) = se := e2
  have k3 : hi f 3 = hi 58 26 := hF.2.1.2.2.2.2.1.trans hF.2.2.1.1.symm
  have k4 : hi f 4 = hi 58 27 := hF.2.1.2.2.2.2.2.1.trans hF.2.2.1.2.1.symm
  refine Ct_of (ls := [_, _, _]) m_250.1.2.2.1 (Nat.le_of_ble_eq_true rfl) rfl ?_
  refine wq_aload_n q250_0 rfl ?_
  refine wq_getR q250_1 rfl rfl rfl ?_
  refine wq_iload_n q250_4 rfl ?_
  refine aI q250_5 rfl (rfl) (by show q < 240; omega) (by first | decide | omega) ?_
  rw [x0]
  refine wq_switch q250_6 [36, 50, 71, 77] (by decide) (fun c6 => ?_) (fun i t ht c6 => ?_)
  · have hk : ∀ v : Int32, 0 ≤ v.toInt → v.toInt ≤ 3 → ¬ kd = v := fun v h1 h2 z => by subst z; omega
    have hb : canB hi f row n kd fi se = decide (hi r 32 < 9999) := by
      unfold canB
      rw [if_neg (hk 0 (by decide) (by decide)), if_neg (hk 1 (by decide) (by decide)), if_neg (hk 2 (by decide) (by decide)), if_neg (hk 3 (by decide) (by decide)), h0, hw.2.2.2.2.2.2.2.2]
      rfl
    rw [hb] at hQ
    refine wq_aload_n q250_83 rfl ?_
    refine wq_bipush q250_84 ?_
    refine aI q250_86 (by first | exact hs | rfl) ((show (32 : Int32) = nI 32 from rfl)) (by decide) (by first | decide | omega) ?_
    refine wq_sipush q250_87 ?_
    refine wq_icmp_ge q250_90 (fun c90 => ?_) (fun c90 => ?_)
    · rw [hIH] at c90
      rw [decide_eq_false (Int32.not_lt.mpr c90)] at hQ
      refine wq_iconst q250_97 ?_
      refine rI q250_98 rfl ?_
      exact hQ
    · rw [hIH] at c90
      rw [decide_eq_true (Int32.not_le.mp c90)] at hQ
      refine wq_iconst q250_93 ?_
      refine wq_goto q250_94 ?_
      refine rI q250_98 rfl ?_
      exact hQ
  · match i, ht, c6 with
    | 0, ht, c6 =>
      cases ht
      obtain rfl : kd = (0 : Int32) := Int32.toInt_inj.mp (by rw [c6]; rfl)
      have hb : canB hi f row n 0 fi se = (inB fi (hi 58 27) && !hsB (hi r 28) fi) := by
        unfold canB hsB
        rw [if_pos rfl, h0, k4, hw.2.2.2.2.1]
        rfl
      rw [hb] at hQ
      refine wq_aload_n q250_36 rfl ?_
      refine wq_aload_n q250_37 rfl ?_
      refine wq_aload_n q250_38 rfl ?_
      refine wq_getR q250_39 rfl rfl rfl ?_
      refine wq_iload_n q250_42 rfl ?_
      refine wq_iconst q250_43 ?_
      refine wq_iadd q250_44 ?_
      refine aI q250_45 rfl (nI_1 q) (by show q + 1 < 240; omega) (by first | decide | omega) ?_
      rw [x1]
      refine cV (As := [_, _]) q250_46 m_229 rfl rfl rfl ⟨by decide, rfl⟩ rfl (c_rcanSee hr ?_)
      cases hb2 : (inB fi (hi 58 27) && !hsB (hi r 28) fi) <;> rw [hb2] at hQ <;> exact rI q250_49 rfl hQ
    | 1, ht, c6 =>
      cases ht
      obtain rfl : kd = (1 : Int32) := Int32.toInt_inj.mp (by rw [c6]; rfl)
      have hb : canB hi f row n 1 fi se = (inB fi (hi 58 26) && inB se (hi 58 26) && !decide (fi = se)) := by
        unfold canB
        rw [if_neg (by decide), if_pos rfl, h0, k3]
        rfl
      rw [hb] at hQ
      refine wq_aload_n q250_50 rfl ?_
      refine wq_aload_n q250_51 rfl ?_
      refine wq_getR q250_52 rfl rfl rfl ?_
      refine wq_iload_n q250_55 rfl ?_
      refine wq_iconst q250_56 ?_
      refine wq_iadd q250_57 ?_
      refine aI q250_58 rfl (nI_1 q) (by show q + 1 < 240; omega) (by first | decide | omega) ?_
      rw [x1]
      refine wq_aload_n q250_59 rfl ?_
      refine wq_getR q250_60 rfl rfl rfl ?_
      refine wq_iload_n q250_63 rfl ?_
      refine wq_iconst q250_64 ?_
      refine wq_iadd q250_65 ?_
      refine aI q250_66 rfl (nI_add q 2) (by show q + 2 < 240; omega) (by first | decide | omega) ?_
      rw [x2]
      refine cV (As := [_, _]) q250_67 m_233 rfl rfl rfl ⟨by decide, rfl⟩ rfl (c_rcanMove ?_)
      cases hb2 : (inB fi (hi 58 26) && inB se (hi 58 26) && !decide (fi = se)) <;> rw [hb2] at hQ <;> exact rI q250_70 rfl hQ
    | 2, ht, c6 =>
      cases ht
      obtain rfl : kd = (2 : Int32) := Int32.toInt_inj.mp (by rw [c6]; rfl)
      have hb : canB hi f row n 2 fi se = (decide (0 < hi 58 26) && decide (hi r 29 = 0) && decide (hi r 30 < hi 63 2)) := by
        unfold canB
        rw [if_neg (by decide), if_neg (by decide), if_pos rfl, k3, hw.2.2.2.2.2.1, hw.2.2.2.2.2.2.1, hF.2.2.1.2.2.1 2 (by decide), Bool.and_assoc]
      rw [hb] at hQ
      refine wq_aload_n q250_71 rfl ?_
      refine wq_aload_n q250_72 rfl ?_
      refine cV (As := [_]) q250_73 m_231 rfl rfl rfl ⟨by decide, rfl⟩ rfl (c_rcanTell hr ?_)
      cases hb2 : (decide (0 < hi 58 26) && decide (hi r 29 = 0) && decide (hi r 30 < hi 63 2)) <;> rw [hb2] at hQ <;> exact rI q250_76 rfl hQ
    | 3, ht, c6 =>
      cases ht
      obtain rfl : kd = (3 : Int32) := Int32.toInt_inj.mp (by rw [c6]; rfl)
      have hb : canB hi f row n 3 fi se = decide (2 ≤ row (7 + riR (fun i => row (7 + i)) (n - 1) 1 0)) := by
        unfold canB
        rw [if_neg (by decide), if_neg (by decide), if_neg (by decide), if_pos rfl, h0]
        rfl
      rw [hb] at hQ
      refine wq_aload_n q250_77 rfl ?_
      refine wq_aload_n q250_78 rfl ?_
      refine cV (As := [_]) q250_79 m_238 rfl rfl rfl ⟨by decide, rfl⟩ rfl (c_rcanCode hr hn hn1 hF.2.2.1.1 hw ?_)
      cases hb2 : decide (2 ≤ row (7 + riR (fun i => row (7 + i)) (n - 1) 1 0)) <;> rw [hb2] at hQ <;> exact rI q250_82 rfl hQ
    | i + 4, ht, _ => simp at ht
/-- a step -/
theorem c_rsteps {kd fi se : Int32} {q : Nat} (hF : RF hi f lw sz n ev wi) (hr : Wok r) (hw : RW n row (hi r)) (hk : KN n row (hi r)) (hlg : lg ≤ 60) (h33 : hi r 33 = nI lg) (hq : q + 2 < 240) (e0 : hi 69 q = kd) (e1 : hi 69 (q + 1) = fi) (e2 : hi 69 (q + 2) = se) (hkd : kd = 0 ∨ kd = 1 ∨ kd = 2 ∨ kd = 3 ∨ kd = 4) (hcb : canB hi f row n kd fi se = true)
    (hQ : ∀ hi' t', RNw r hi hi' → RW n (chg hi f lw sz n ev (sOf row) wi row kd fi se) (hi' r) → KN n (chg hi f lw sz n ev (sOf row) wi row kd fi se) (hi' r) → (¬ kd = 4 → ∀ j, 33 ≤ j → hi' r j = hi r j) → (kd = 4 → DkP n lg (hi r) (hi' r)) → Q none (HP hi' hl f dr t')) : Ct G (0, 0) (d + 37) 251 [.ref 58, .ref r, .int (nI q)] (HP hi hl f dr t) Q := by
  obtain ⟨hs, h58, -⟩ := hr.sh hi hl f dr t
  have h0 := hf3 hF
  have hn := hF.2.1.1
  have hn1 := hF.2.1.2.1
  have x0 : hI (HP hi hl f dr t) 69 q = kd := e0
  have x1 : hI (HP hi hl f dr t) 69 (q + 1) = fi := e1
  have x2 : hI (HP hi hl f dr t) 69 (q + 2) = se := e2
  refine Ct_of (ls := [_, _, _, _, _]) m_251.1.2.2.1 (Nat.le_of_ble_eq_true rfl) rfl ?_
  refine wq_aload_n q251_0 rfl ?_
  refine wq_getR q251_1 rfl rfl rfl ?_
  refine wq_iload_n q251_4 rfl ?_
  refine aI q251_5 rfl (rfl) (by show q < 240; omega) (by first | decide | omega) ?_
  rw [x0]
  refine wq_switch q251_6 [36, 56, 79, 88] (by decide) (fun c6 => ?_) (fun i t ht c6 => ?_)
  · have hk4 : kd = 4 := by
      rcases hkd with rfl | rfl | rfl | rfl | rfl
      · exact absurd c6 (by decide)
      · exact absurd c6 (by decide)
      · exact absurd c6 (by decide)
      · exact absurd c6 (by decide)
      · rfl
    subst hk4
    have ech : chg hi f lw sz n ev (sOf row) wi row 4 fi se = edR row := by
      unfold chg
      rw [if_neg (by decide), if_neg (by decide), if_neg (by decide), if_neg (by decide)]
    rw [ech] at hQ
    refine wq_aload_n q251_98 rfl ?_
    refine wq_aload_n q251_99 rfl ?_
    refine cV (As := [_]) q251_100 m_221 rfl rfl rfl ⟨by decide, rfl⟩ rfl (c_darkens hr hn hF.2.2.1.1 hlg h33 (fun W' hd => ?_))
    refine rV q251_103 ?_
    have hd2 := hw.dark hn hd
    exact hQ _ t (RNw.rf.up h58 W') (by rw [upC_s]; exact hd2.1) (by rw [upC_s]; exact hd2.2) (fun z => absurd rfl z) (fun _ => by rw [upC_s]; exact hd)
  · match i, ht, c6 with
    | 0, ht, c6 =>
      cases ht
      obtain rfl : kd = (0 : Int32) := Int32.toInt_inj.mp (by rw [c6]; rfl)
      have ech : chg hi f lw sz n ev (sOf row) wi row 0 fi se = va_up row 28 (row 28 ||| (1 <<< (fi &&& 31))) := by
        unfold chg
        rw [if_pos rfl]
      rw [ech] at hQ
      have e28 : hI (HP hi hl f dr t) r 28 = row 28 := hw.2.2.2.2.1
      refine wq_aload_n q251_36 rfl ?_
      refine wq_bipush q251_37 ?_
      refine wq_dup2 q251_39 rfl rfl ?_
      refine aI q251_40 (by first | exact hs | rfl) ((show (28 : Int32) = nI 28 from rfl)) (by decide) (by first | decide | omega) ?_
      refine wq_iconst q251_41 ?_
      refine wq_aload_n q251_42 rfl ?_
      refine wq_getR q251_43 (by first | exact hs | rfl) rfl (by first | exact hs | rfl) ?_
      refine wq_iload_n q251_46 rfl ?_
      refine wq_iconst q251_47 ?_
      refine wq_iadd q251_48 ?_
      refine aI q251_49 (by first | exact hs | rfl) (nI_1 q) (by show q + 1 < 240; omega) (by first | decide | omega) ?_
      rw [x1, e28]
      refine wq_ishl q251_50 ?_
      refine wq_ior q251_51 ?_
      refine sI q251_52 (by first | exact hs | rfl) ((show (28 : Int32) = nI 28 from rfl)) (by decide) (by first | decide | omega) (by first | exact hs | rfl) ?_
      rw [hpS, up2_C]
      refine wq_goto q251_53 ?_
      refine rV q251_103 ?_
      exact hQ _ t (RNw.rf.up h58 _) (by rw [upC_s]; exact hw.see hn _) (by rw [upC_s]; exact hk.see hn _) (fun _ j hj => by rw [upC_s, vu_o _ _ (by omega)]) (fun z => absurd z (by decide))
    | 1, ht, c6 =>
      cases ht
      obtain rfl : kd = (1 : Int32) := Int32.toInt_inj.mp (by rw [c6]; rfl)
      have ech : chg hi f lw sz n ev (sOf row) wi row 1 fi se = swR row n fi se := by
        unfold chg
        rw [if_neg (by decide), if_pos rfl]
      rw [ech] at hQ
      have hb : canB hi f row n 1 fi se = (inB fi (nI n) && inB se (nI n) && !decide (fi = se)) := by
        unfold canB
        rw [if_neg (by decide), if_pos rfl, h0, hF.2.1.2.2.2.2.1]
        rfl
      rw [hb] at hcb
      simp only [Bool.and_eq_true] at hcb
      obtain ⟨a, ha, rfl⟩ := inB_N (m := n) (by omega) hcb.1.1
      obtain ⟨b, hb', rfl⟩ := inB_N (m := n) (by omega) hcb.1.2
      refine wq_aload_n q251_56 rfl ?_
      refine wq_aload_n q251_57 rfl ?_
      refine wq_getR q251_58 rfl rfl rfl ?_
      refine wq_iload_n q251_61 rfl ?_
      refine wq_iconst q251_62 ?_
      refine wq_iadd q251_63 ?_
      refine aI q251_64 rfl (nI_1 q) (by show q + 1 < 240; omega) (by first | decide | omega) ?_
      rw [x1]
      refine wq_aload_n q251_65 rfl ?_
      refine wq_getR q251_66 rfl rfl rfl ?_
      refine wq_iload_n q251_69 rfl ?_
      refine wq_iconst q251_70 ?_
      refine wq_iadd q251_71 ?_
      refine aI q251_72 rfl (nI_add q 2) (by show q + 2 < 240; omega) (by first | decide | omega) ?_
      rw [x2]
      refine cS' (As := [_, _, _]) q251_73 m_234 rfl rfl rfl (c_changes hr (by omega) (by omega) ?_)
      refine wq_goto q251_76 ?_
      refine rV q251_103 ?_
      exact hQ _ t (RNw.rf.up h58 _) (by rw [upC_s]; exact hw.sw hn ha hb') (by rw [upC_s]; exact hk.sw hn) (fun _ j hj => by rw [upC_s, chW_o (by omega) (by omega)]) (fun z => absurd z (by decide))
    | 2, ht, c6 =>
      cases ht
      obtain rfl : kd = (2 : Int32) := Int32.toInt_inj.mp (by rw [c6]; rfl)
      have ech : chg hi f lw sz n ev (sOf row) wi row 2 fi se = chg hi f lw sz n ev (sOf row) wi row 2 (-1) (-1) := by
        unfold chg
        rw [if_neg (by decide), if_neg (by decide), if_pos rfl, if_neg (by decide), if_neg (by decide)]
      rw [ech] at hQ
      refine wq_aload_n q251_79 rfl ?_
      refine wq_aload_n q251_80 rfl ?_
      refine cV (As := [_]) q251_81 m_220 rfl rfl rfl ⟨by decide, rfl⟩ rfl (c_rtells (d := d) hF hr hw hk (fun hi' t' hN hw' hk' h33' => ?_))
      refine wq_istore_n (ls' := [_, _, _, _, _]) q251_84 rfl ?_
      refine wq_goto q251_85 ?_
      refine rV q251_103 ?_
      exact hQ hi' t' hN hw' hk' (fun _ => h33') (fun z => absurd z (by decide))
    | 3, ht, c6 =>
      cases ht
      obtain rfl : kd = (3 : Int32) := Int32.toInt_inj.mp (by rw [c6]; rfl)
      obtain ⟨p, ep⟩ : ∃ p, p = riR (fun i => row (7 + i)) (n - 1) 1 0 := ⟨_, rfl⟩
      have hp : p < n := by
        have := riR_lt (b := fun i => row (7 + i)) (n - 1) 1 0 (Or.inr rfl) (by omega)
        omega
      have ech : chg hi f lw sz n ev (sOf row) wi row 3 fi se = va_up (va_up row (7 + p) (row (7 + p) - 2)) 31 0 := by
        unfold chg
        rw [if_neg (by decide), if_neg (by decide), if_neg (by decide), if_pos rfl, ← ep]
      rw [ech] at hQ
      refine wq_aload_n q251_88 rfl ?_
      refine wq_aload_n q251_89 rfl ?_
      refine cV (As := [_]) q251_90 m_239 rfl rfl rfl ⟨by decide, rfl⟩ rfl (c_renews (d := d + 35) hr hn hn1 hF.2.2.1.1 hw ep hp ?_)
      refine wq_istore (ls' := [_, _, _, _, _]) q251_93 rfl ?_
      refine wq_goto q251_95 ?_
      refine rV q251_103 ?_
      exact hQ _ t (RNw.rf.up h58 _) (by rw [upC_s]; exact hw.renew hn hp _) (by rw [upC_s]; exact hk.renew hn hp _) (fun _ j hj => by rw [upC_s, vu_o _ _ (by omega), vu_o _ _ (by omega)]) (fun z => absurd z (by decide))
    | i + 4, ht, _ => simp at ht
end REFACTS
