/-! THE CLASS: what is told and how it stands; days -/
section ASK
variable {G : ph_G} {d a r n f dr t sz : Nat} {hi : Nat → Nat → Int32} {hl : Nat → Nat → Int64} {Q : Option Value → ph_H → Prop} {lw : Option Nat}
theorem inB_N {x : Int32} {m : Nat} (hm : m < 2 ^ 31) (h : inB x (nI m) = true) : ∃ j, j < m ∧ x = nI j := by
  simp [inB] at h
  obtain ⟨j, hj, rfl⟩ := nI_of (Int32.not_lt.mpr h.1)
  exact ⟨j, (nI_ltI hj hm).mp h.2, rfl⟩
theorem c_guards {x : Int32} (hQ : Q (some (.int (if 0 ≤ x ∧ x ≤ 9 ∧ ¬ x = hi 0 8 then 1 else 0))) (HP (if 0 ≤ x ∧ x ≤ 9 ∧ ¬ x = hi 0 8 then up2 hi 0 8 x else hi) hl f dr t)) : Ct G (0, 0) d 99 [.ref 0, .int x] (HP hi hl f dr t) Q := by
  refine Ct_of (ls := [_, _]) m_99.1.2.2.1 (Nat.le_of_ble_eq_true rfl) rfl ?_
  refine wq_iload_n q99_0 rfl ?_
  refine wq_if_lt q99_1 (fun c1 => ?_) (fun c1 => ?_)
  · rw [if_neg (fun z => absurd z.1 (Int32.not_le.mpr c1)), if_neg (fun z => absurd z.1 (Int32.not_le.mpr c1))] at hQ
    refine wq_iconst q99_18 ?_
    refine rI q99_19 rfl ?_
    exact hQ
  · refine wq_iload_n q99_4 rfl ?_
    refine wq_bipush q99_5 ?_
    refine wq_icmp_gt q99_7 (fun c7 => ?_) (fun c7 => ?_)
    · rw [if_neg (fun z => absurd z.2.1 (Int32.not_le.mpr c7)), if_neg (fun z => absurd z.2.1 (Int32.not_le.mpr c7))] at hQ
      refine wq_iconst q99_18 ?_
      refine rI q99_19 rfl ?_
      exact hQ
    · refine wq_iload_n q99_10 rfl ?_
      refine wq_aload_n q99_11 rfl ?_
      refine wq_getI q99_12 rfl rfl ?_
      refine wq_icmp_ne q99_15 (fun c15 => ?_) (fun c15 => ?_)
      · rw [if_pos ⟨Int32.not_lt.mp c1, Int32.not_lt.mp c7, c15⟩, if_pos ⟨Int32.not_lt.mp c1, Int32.not_lt.mp c7, c15⟩] at hQ
        refine wq_aload_n q99_20 rfl ?_
        refine wq_iload_n q99_21 rfl ?_
        refine wq_putI q99_22 rfl rfl rfl rfl ?_
        refine wq_iconst q99_25 ?_
        refine rI q99_26 rfl ?_
        exact hQ
      · rw [if_neg (fun z => z.2.2 c15), if_neg (fun z => z.2.2 c15)] at hQ
        refine wq_iconst q99_18 ?_
        refine rI q99_19 rfl ?_
        exact hQ
theorem c_rule {x : Int32} (hf : Fok f) (h0 : ¬ (0 < hi f 3 ∧ inB x 4 = true) → Q (some (.int (-1))) (HP hi hl f dr t)) (h1 : ∀ j, j < 4 → x = nI j → 0 < hi f 3 → Q (some (.int (hi (f + 1) j))) (HP hi hl f dr t)) : Ct G (0, 0) (d + 1) 94 [.ref 0, .int x] (HP hi hl f dr t) Q := by
  obtain ⟨f1, f2, f3, f4, f5, f6, f7⟩ := hf.frt hi hl f dr t
  refine Ct_of (ls := [_, _]) m_94.1.2.2.1 (Nat.le_of_ble_eq_true rfl) rfl ?_
  refine wq_aload_n q94_0 rfl ?_
  refine cV (As := []) q94_1 m_102 rfl rfl rfl ⟨by decide, rfl⟩ rfl (c_hasFort hf ?_)
  refine wq_if_eq q94_4 (fun c4 => ?_) (fun c4 => ?_)
  · have c := p01 c4
    refine wq_iconst q94_28 ?_
    refine rI q94_29 rfl ?_
    exact h0 (fun z => c z.1)
  · have c := p10 c4
    refine wq_iload_n q94_7 rfl ?_
    refine wq_if_lt q94_8 (fun c8 => ?_) (fun c8 => ?_)
    · refine wq_iconst q94_28 ?_
      refine rI q94_29 rfl ?_
      exact h0 (fun z => by rw [inB_f1 c8] at z; cases z.2)
    · refine wq_iload_n q94_11 rfl ?_
      refine wq_iconst q94_12 ?_
      refine wq_icmp_ge q94_13 (fun c13 => ?_) (fun c13 => ?_)
      · refine wq_iconst q94_28 ?_
        refine rI q94_29 rfl ?_
        exact h0 (fun z => by rw [inB_f2 c13] at z; cases z.2)
      · obtain ⟨j, hj, rfl⟩ := inB_N (m := 4) (by decide) (inB_t c8 c13)
        refine wq_aload_n q94_16 rfl ?_
        refine wq_getR q94_17 (by first | exact f1 | exact f2 | exact f5 | rfl) rfl (by first | exact f1 | exact f2 | exact f5 | rfl) ?_
        refine wq_getR q94_20 (by first | exact f1 | exact f2 | exact f5 | rfl) rfl (by first | exact f1 | exact f2 | exact f5 | rfl) ?_
        refine wq_iload_n q94_23 rfl ?_
        refine aI q94_24 (by first | exact f1 | exact f2 | exact f5 | rfl) (rfl) (by omega) (by first | decide | omega) ?_
        refine wq_goto q94_25 ?_
        refine rI q94_29 rfl ?_
        exact h1 j hj rfl c
theorem c_cell {x w : Int32} (hf : Fok f) (hn : n ≤ 7) (hc : hi f 3 = nI n) (h0 : ¬ (inB x (hi f 3) = true ∧ 0 ≤ w ∧ w ≤ 1) → Q (some (.int (-1))) (HP hi hl f dr t)) (h1 : ∀ j, j < n → x = nI j → 0 ≤ w → w ≤ 1 → Q (some (.int (if w = 0 then hi (f + 2) (j * 5) else hi 39 j))) (HP hi hl f dr t)) : Ct G (0, 0) (d + 1) 96 [.ref 0, .int x, .int w] (HP hi hl f dr t) Q := by
  obtain ⟨f1, f2, f3, f4, f5, f6, f7⟩ := hf.frt hi hl f dr t
  refine Ct_of (ls := [_, _, _]) m_96.1.2.2.1 (Nat.le_of_ble_eq_true rfl) rfl ?_
  refine wq_aload_n q96_0 rfl ?_
  refine wq_iload_n q96_1 rfl ?_
  refine cV (As := [_]) q96_2 m_104 rfl rfl rfl ⟨by decide, rfl⟩ rfl (c_isCell hf ?_)
  refine wq_if_eq q96_5 (fun c5 => ?_) (fun c5 => ?_)
  · have c := i01 c5
    refine wq_iconst q96_17 ?_
    refine rI q96_18 rfl ?_
    exact h0 (fun z => by rw [z.1] at c; cases c)
  · have c := i10 c5
    rw [hc] at c
    obtain ⟨j, hj, rfl⟩ := inB_N (m := n) (by omega) c
    refine wq_iload_n q96_8 rfl ?_
    refine wq_if_lt q96_9 (fun c9 => ?_) (fun c9 => ?_)
    · refine wq_iconst q96_17 ?_
      refine rI q96_18 rfl ?_
      exact h0 (fun z => absurd z.2.1 (Int32.not_le.mpr c9))
    · refine wq_iload_n q96_12 rfl ?_
      refine wq_iconst q96_13 ?_
      refine wq_icmp_le q96_14 (fun c14 => ?_) (fun c14 => ?_)
      · have h1 := h1 j hj rfl (Int32.not_lt.mp c9) c14
        refine wq_iload_n q96_19 rfl ?_
        refine wq_if_ne q96_20 (fun c20 => ?_) (fun c20 => ?_)
        · rw [if_neg c20] at h1
          refine wq_aload_n q96_34 rfl ?_
          refine wq_getR q96_35 rfl rfl rfl ?_
          refine wq_getR q96_38 rfl rfl rfl ?_
          refine wq_iconst q96_41 ?_
          refine wq_iload_n q96_42 rfl ?_
          refine wq_iadd q96_43 ?_
          refine aI q96_44 rfl ((by rw [show (0 : Int32) = nI 0 from rfl, nI_add, Nat.zero_add])) (by show j < 33; omega) (by first | decide | omega) ?_
          refine rI q96_45 rfl ?_
          exact h1
        · rw [if_pos c20] at h1
          refine wq_aload_n q96_23 rfl ?_
          refine wq_getR q96_24 (by first | exact f1 | rfl) rfl (by first | exact f1 | rfl) ?_
          refine wq_iload_n q96_27 rfl ?_
          refine cV (As := [_]) q96_28 m_20 rfl rfl (by first | exact f1 | rfl) ⟨by decide, rfl⟩ rfl (c_thick (by exact hf.frt hi hl f dr t) (by omega) ?_)
          refine wq_goto q96_31 ?_
          refine rI q96_45 rfl ?_
          exact h1
      · refine wq_iconst q96_17 ?_
        refine rI q96_18 rfl ?_
        exact h0 (fun z => c14 z.2.2)
theorem c_event {x w : Int32} {ev : Nat} (hf : Fok f) (hev : ev ≤ 6) (hc4 : hi f 4 = nI ev) (h0 : ¬ (inB x (hi f 4) = true ∧ 0 ≤ w ∧ w ≤ 2) → Q (some (.int (-1))) (HP hi hl f dr t))
    (h1 : ∀ j, j < ev → x = nI j → (w = 0 → Q (some (.int (hi (f + 3) (j * 2)))) (HP hi hl f dr t)) ∧ (w = 1 → Q (some (.int (hi (f + 3) (j * 2 + 1)))) (HP hi hl f dr t)) ∧ (w = 2 → Q (some (.int (if seB (hi 39) j = true then 1 else 0))) (HP hi hl f dr t))) : Ct G (0, 0) (d + 1) 97 [.ref 0, .int x, .int w] (HP hi hl f dr t) Q := by
  obtain ⟨f1, f2, f3, f4, f5, f6, f7⟩ := hf.frt hi hl f dr t
  have hs : Sok 38 39 := Or.inl ⟨rfl, rfl⟩
  refine Ct_of (ls := [_, _, _]) m_97.1.2.2.1 (Nat.le_of_ble_eq_true rfl) rfl ?_
  refine wq_aload_n q97_0 rfl ?_
  refine wq_iload_n q97_1 rfl ?_
  refine cV (As := [_]) q97_2 m_105 rfl rfl rfl ⟨by decide, rfl⟩ rfl (c_isEvent hf ?_)
  refine wq_if_ne q97_5 (fun c5 => ?_) (fun c5 => ?_)
  · have c := i10 c5
    rw [hc4] at c
    obtain ⟨j, hj, rfl⟩ := inB_N (m := ev) (by omega) c
    have h1 := h1 j hj rfl
    refine wq_iload_n q97_10 rfl ?_
    refine wq_switch q97_11 [36, 45, 54] (by decide) (fun c11 => ?_) (fun i t ht c11 => ?_)
    · refine wq_iconst q97_71 ?_
      refine rI q97_72 rfl ?_
      refine h0 (fun z => ?_)
      have a1 := Int32.le_iff_toInt_le.mp z.2.1
      have a2 := Int32.le_iff_toInt_le.mp z.2.2
      have e0 : (0 : Int32).toInt = 0 := rfl
      have e2 : (2 : Int32).toInt = 2 := rfl
      omega
    · match i, ht, c11 with
      | 0, ht, c11 =>
        cases ht
        obtain rfl : w = (0 : Int32) := Int32.toInt_inj.mp (by rw [c11]; rfl)
        refine wq_aload_n q97_36 rfl ?_
        refine wq_getR q97_37 (by first | exact f1 | rfl) rfl (by first | exact f1 | rfl) ?_
        refine wq_iload_n q97_40 rfl ?_
        refine cV (As := [_]) q97_41 m_25 rfl rfl (by first | exact f1 | rfl) ⟨by decide, rfl⟩ rfl (c_knocks (by exact hf.frt hi hl f dr t) (by omega) ?_)
        refine rI q97_44 rfl ?_
        exact h1.1 rfl
      | 1, ht, c11 =>
        cases ht
        obtain rfl : w = (1 : Int32) := Int32.toInt_inj.mp (by rw [c11]; rfl)
        refine wq_aload_n q97_45 rfl ?_
        refine wq_getR q97_46 (by first | exact f1 | rfl) rfl (by first | exact f1 | rfl) ?_
        refine wq_iload_n q97_49 rfl ?_
        refine cV (As := [_]) q97_50 m_26 rfl rfl (by first | exact f1 | rfl) ⟨by decide, rfl⟩ rfl (c_chance (by exact hf.frt hi hl f dr t) (by omega) ?_)
        refine rI q97_53 rfl ?_
        exact h1.2.1 rfl
      | 2, ht, c11 =>
        cases ht
        obtain rfl : w = (2 : Int32) := Int32.toInt_inj.mp (by rw [c11]; rfl)
        have h2 := h1.2.2 rfl
        refine wq_aload_n q97_54 rfl ?_
        refine wq_getR q97_55 rfl rfl rfl ?_
        refine wq_iload_n q97_58 rfl ?_
        refine cV (As := [_]) q97_59 m_56 rfl rfl rfl ⟨by decide, rfl⟩ rfl (c_sees (hs.scn _ _ _ _ _) ?_)
        refine wq_if_eq q97_62 (fun c62 => ?_) (fun c62 => ?_)
        · have c := p01 c62
          refine wq_iconst q97_69 ?_
          refine rI q97_70 rfl ?_
          rw [show seB (hi 39) j = false from decide_eq_false c] at h2
          exact h2
        · have c := p10 c62
          refine wq_iconst q97_65 ?_
          refine wq_goto q97_66 ?_
          refine rI q97_70 rfl ?_
          rw [show seB (hi 39) j = true from decide_eq_true c] at h2
          exact h2
      | i + 3, ht, _ => simp at ht
  · have c := i01 c5
    refine wq_iconst q97_8 ?_
    refine rI q97_9 rfl ?_
    exact h0 (fun z => by rw [z.1] at c; cases c)
theorem c_log {x w : Int32} {dy : Nat} (h32 : hi 39 32 = nI dy) (hdy : dy ≤ 9999) (h0 : ¬ (inB x (nI (min dy 60)) = true ∧ inB w 3 = true) → Q (some (.int (-1))) (HP hi hl f dr t)) (h1 : ∀ j k, j < min dy 60 → x = nI j → k < 3 → w = nI k → Q (some (.int (hi 45 ((dy - 1 - j) % 100 * 3 + k)))) (HP hi hl f dr t)) : Ct G (0, 0) (d + 2) 100 [.ref 0, .int x, .int w] (HP hi hl f dr t) Q := by
  have e1 : hI (HP hi hl f dr t) 39 32 = nI dy := h32
  refine Ct_of (ls := [_, _, _]) m_100.1.2.2.1 (Nat.le_of_ble_eq_true rfl) rfl ?_
  refine wq_iload_n q100_0 rfl ?_
  refine wq_if_lt q100_1 (fun c1 => ?_) (fun c1 => ?_)
  · refine wq_iconst q100_21 ?_
    refine rI q100_22 rfl ?_
    exact h0 (fun z => by rw [inB_f1 c1] at z; cases z.1)
  · refine wq_iload_n q100_4 rfl ?_
    refine wq_aload_n q100_5 rfl ?_
    refine cV (As := []) q100_6 m_107 rfl rfl rfl ⟨by decide, rfl⟩ rfl (c_logged h32 hdy ?_)
    refine wq_icmp_ge q100_9 (fun c9 => ?_) (fun c9 => ?_)
    · refine wq_iconst q100_21 ?_
      refine rI q100_22 rfl ?_
      exact h0 (fun z => by rw [inB_f2 c9] at z; cases z.1)
    · obtain ⟨j, hj, rfl⟩ := inB_N (m := min dy 60) (by omega) (inB_t c1 c9)
      refine wq_iload_n q100_12 rfl ?_
      refine wq_if_lt q100_13 (fun c13 => ?_) (fun c13 => ?_)
      · refine wq_iconst q100_21 ?_
        refine rI q100_22 rfl ?_
        exact h0 (fun z => by rw [inB_f1 c13] at z; cases z.2)
      · refine wq_iload_n q100_16 rfl ?_
        refine wq_iconst q100_17 ?_
        refine wq_icmp_lt q100_18 (fun c18 => ?_) (fun c18 => ?_)
        · obtain ⟨k, hk, rfl⟩ := inB_N (m := 3) (by decide) (inB_t c13 (Int32.not_le.mpr c18))
          refine wq_aload_n q100_23 rfl ?_
          refine wq_getR q100_24 rfl rfl rfl ?_
          refine wq_aload_n q100_27 rfl ?_
          refine wq_getR q100_28 rfl rfl rfl ?_
          refine wq_getR q100_31 rfl rfl rfl ?_
          refine wq_bipush q100_34 ?_
          refine aI q100_36 rfl (rfl) (by decide) (by first | decide | omega) ?_
          refine wq_iconst q100_37 ?_
          refine wq_isub q100_38 ?_
          refine wq_iload_n q100_39 rfl ?_
          refine wq_isub q100_40 ?_
          refine wq_iload_n q100_41 rfl ?_
          have e2 : nI dy - 1 - nI j = nI (dy - 1 - j) := by
            rw [nI_m1 (by omega)]
            exact pk_sub (by omega)
          rw [e1, e2]
          refine cV (As := [_, _]) q100_42 m_10 rfl rfl rfl ⟨by decide, rfl⟩ rfl (c_dentry (by omega) hk ?_)
          refine rI q100_45 rfl ?_
          exact h1 j k hj rfl hk rfl
        · refine wq_iconst q100_21 ?_
          refine rI q100_22 rfl ?_
          exact h0 (fun z => by rw [inB_f2 (Int32.not_lt.mp c18)] at z; cases z.2)
theorem c_undo {nx kp : Nat} (ha : AcK hi nx kp) (h0 : kp = 0 → Q (some (.int (-1))) (HP hi hl f dr t)) (h1 : 0 < kp → Q (some (.int (nI (kp - 1)))) (HP (bbA hi 39 nx kp) hl f dr t)) : Ct G (0, 0) (d + 2) 116 [.ref 0] (HP hi hl f dr t) Q := by
  have hs : Sok 38 39 := Or.inl ⟨rfl, rfl⟩
  obtain ⟨ha1, ha2, ha3, ha4⟩ := ha
  have e : hI (HP hi hl f dr t) 48 2 = nI kp := ha3
  refine Ct_of (ls := [_]) m_116.1.2.2.1 (Nat.le_of_ble_eq_true rfl) rfl ?_
  refine wq_aload_n q116_0 rfl ?_
  refine wq_getR q116_1 rfl rfl rfl ?_
  refine wq_getI q116_4 rfl rfl ?_
  refine wq_if_ne q116_7 (fun c7 => ?_) (fun c7 => ?_)
  · rw [e] at c7
    have hk : 0 < kp := by
      rcases Nat.eq_zero_or_pos kp with z | z
      · subst z; exact absurd rfl c7
      · exact z
    refine wq_aload_n q116_12 rfl ?_
    refine wq_getR q116_13 rfl rfl rfl ?_
    refine wq_aload_n q116_16 rfl ?_
    refine wq_getR q116_17 rfl rfl rfl ?_
    refine cV (As := [_]) q116_20 m_3 rfl rfl rfl ⟨by decide, rfl⟩ rfl (c_bringBack (a := 38) (r := 39) (hs.scn _ _ _ _ _) (by decide) ha1 ha2 ha3 ha4 hk ?_)
    refine wq_aload_n q116_23 rfl ?_
    refine wq_getR q116_24 rfl rfl rfl ?_
    refine wq_getI q116_27 rfl rfl ?_
    refine rI q116_30 rfl ?_
    exact h1 hk
  · rw [e] at c7
    have hk : kp = 0 := by
      rcases Nat.eq_zero_or_pos kp with z | z
      · exact z
      · exact absurd c7 (nI_ne0 z (by omega))
    refine wq_iconst q116_10 ?_
    refine rI q116_11 rfl ?_
    exact h0 hk
theorem c_image (hf : Fok f) (h0 : ¬ 0 < hi f 3 → Q (some (.int (-1))) (HP hi hl f dr t)) (h1 : 0 < hi f 3 → Q (some (.int (hi 39 32))) (HP (up2 (upC (upC hi 43 (va_cpy (hi 39) (hi 43) 0 0 33)) 47 (va_cpy (hi 45) (hi 47) 0 0 300)) 0 12 1) hl f dr t)) : Ct G (0, 0) (d + 2) 117 [.ref 0] (HP hi hl f dr t) Q := by
  have hs : Sok 38 39 := Or.inl ⟨rfl, rfl⟩
  have hs2 : Sok 42 43 := Or.inr (Or.inr ⟨rfl, rfl⟩)
  refine Ct_of (ls := [_]) m_117.1.2.2.1 (Nat.le_of_ble_eq_true rfl) rfl ?_
  refine wq_aload_n q117_0 rfl ?_
  refine cV (As := []) q117_1 m_102 rfl rfl rfl ⟨by decide, rfl⟩ rfl (c_hasFort hf ?_)
  refine wq_if_ne q117_4 (fun c4 => ?_) (fun c4 => ?_)
  · have c := p10 c4
    refine wq_aload_n q117_9 rfl ?_
    refine wq_getR q117_10 rfl rfl rfl ?_
    refine wq_aload_n q117_13 rfl ?_
    refine wq_getR q117_14 rfl rfl rfl ?_
    refine cV (As := [_]) q117_17 m_55 rfl rfl rfl ⟨by decide, rfl⟩ rfl (c_scopy (hs2.scn _ _ _ _ _) (hs.scn _ _ _ _ _) ?_)
    refine wq_aload_n q117_20 rfl ?_
    refine wq_getR q117_21 rfl rfl rfl ?_
    refine wq_aload_n q117_24 rfl ?_
    refine wq_getR q117_25 rfl rfl rfl ?_
    refine cV (As := [_]) q117_28 m_11 rfl rfl rfl ⟨by decide, rfl⟩ rfl (c_dcopy (Or.inr ⟨rfl, rfl⟩) ?_)
    refine wq_aload_n q117_31 rfl ?_
    refine wq_iconst q117_32 ?_
    refine wq_putI q117_33 rfl rfl rfl rfl ?_
    refine wq_aload_n q117_36 rfl ?_
    refine wq_getR q117_37 rfl rfl rfl ?_
    refine wq_getR q117_40 rfl rfl rfl ?_
    refine wq_bipush q117_43 ?_
    refine aI q117_45 rfl (rfl) (by decide) (by first | decide | omega) ?_
    refine rI q117_46 rfl ?_
    exact h1 c
  · have c := p01 c4
    refine wq_iconst q117_7 ?_
    refine rI q117_8 rfl ?_
    exact h0 c
theorem c_back (h0 : hi 0 12 = 0 → Q (some (.int (-1))) (HP hi hl f dr t)) (h1 : ¬ hi 0 12 = 0 → Q (some (.int (va_cpy (hi 43) (hi 39) 0 0 33 32))) (HP (up2 (upC (upC hi 39 (va_cpy (hi 43) (hi 39) 0 0 33)) 45 (va_cpy (hi 47) (hi 45) 0 0 300)) 48 2 0) hl f dr t)) : Ct G (0, 0) (d + 2) 118 [.ref 0] (HP hi hl f dr t) Q := by
  have hs : Sok 38 39 := Or.inl ⟨rfl, rfl⟩
  have hs2 : Sok 42 43 := Or.inr (Or.inr ⟨rfl, rfl⟩)
  refine Ct_of (ls := [_]) m_118.1.2.2.1 (Nat.le_of_ble_eq_true rfl) rfl ?_
  refine wq_aload_n q118_0 rfl ?_
  refine wq_getI q118_1 rfl rfl ?_
  refine wq_if_ne q118_4 (fun c4 => ?_) (fun c4 => ?_)
  · refine wq_aload_n q118_9 rfl ?_
    refine wq_getR q118_10 rfl rfl rfl ?_
    refine wq_aload_n q118_13 rfl ?_
    refine wq_getR q118_14 rfl rfl rfl ?_
    refine cV (As := [_]) q118_17 m_55 rfl rfl rfl ⟨by decide, rfl⟩ rfl (c_scopy (hs.scn _ _ _ _ _) (hs2.scn _ _ _ _ _) ?_)
    refine wq_aload_n q118_20 rfl ?_
    refine wq_getR q118_21 rfl rfl rfl ?_
    refine wq_aload_n q118_24 rfl ?_
    refine wq_getR q118_25 rfl rfl rfl ?_
    refine cV (As := [_]) q118_28 m_11 rfl rfl rfl ⟨by decide, rfl⟩ rfl (c_dcopy (Or.inl ⟨rfl, rfl⟩) ?_)
    refine wq_aload_n q118_31 rfl ?_
    refine wq_getR q118_32 rfl rfl rfl ?_
    refine cV (As := []) q118_35 m_1 rfl rfl rfl ⟨by decide, rfl⟩ rfl (c_aforget ?_)
    refine wq_aload_n q118_38 rfl ?_
    refine wq_getR q118_39 rfl rfl rfl ?_
    refine wq_getR q118_42 rfl rfl rfl ?_
    refine wq_bipush q118_45 ?_
    refine aI q118_47 rfl (rfl) (by decide) (by first | decide | omega) ?_
    refine rI q118_48 rfl ?_
    exact h1 c4
  · refine wq_iconst q118_7 ?_
    refine rI q118_8 rfl ?_
    exact h0 c4
def spB (hi : Nat → Nat → Int32) (f : Nat) (x : Int32) : Bool := decide (0 < hi f 3) && decide (1 ≤ x) && decide (x ≤ 60) && decide (hi 39 32 + x ≤ 9999)
theorem c_canSpend {x : Int32} (hf : Fok f) (hQ : Q (some (.int (if spB hi f x = true then 1 else 0))) (HP hi hl f dr t)) : Ct G (0, 0) (d + 1) 119 [.ref 0, .int x] (HP hi hl f dr t) Q := by
  have zero : ∀ {ls : List (Option Value)}, spB hi f x = false → wq G (0, 0) (d + 1) 119 40 ls [] (0, 0) (HP hi hl f dr t) Q := by
    intro ls hb
    rw [hb] at hQ
    refine wq_iconst q119_40 ?_
    refine rI q119_41 rfl ?_
    exact hQ
  refine Ct_of (ls := [_, _]) m_119.1.2.2.1 (Nat.le_of_ble_eq_true rfl) rfl ?_
  refine wq_aload_n q119_0 rfl ?_
  refine cV (As := []) q119_1 m_102 rfl rfl rfl ⟨by decide, rfl⟩ rfl (c_hasFort hf ?_)
  refine wq_if_eq q119_4 (fun c4 => ?_) (fun c4 => ?_)
  · have c := p01 c4
    exact zero (by simp [spB, c])
  · have c := p10 c4
    refine wq_iload_n q119_7 rfl ?_
    refine wq_iconst q119_8 ?_
    refine wq_icmp_lt q119_9 (fun c9 => ?_) (fun c9 => ?_)
    · exact zero (by simp [spB, Int32.not_le.mpr c9])
    · refine wq_iload_n q119_12 rfl ?_
      refine wq_bipush q119_13 ?_
      refine wq_icmp_gt q119_15 (fun c15 => ?_) (fun c15 => ?_)
      · exact zero (by simp [spB, Int32.not_le.mpr c15])
      · refine wq_aload_n q119_18 rfl ?_
        refine wq_getR q119_19 rfl rfl rfl ?_
        refine wq_getR q119_22 rfl rfl rfl ?_
        refine wq_bipush q119_25 ?_
        refine aI q119_27 rfl (rfl) (by decide) (by first | decide | omega) ?_
        refine wq_iload_n q119_28 rfl ?_
        refine wq_iadd q119_29 ?_
        refine wq_sipush q119_30 ?_
        refine wq_icmp_gt q119_33 (fun c33 => ?_) (fun c33 => ?_)
        · exact zero (by simp [spB, Int32.not_le.mpr (show 9999 < hi 39 32 + x from c33)])
        · have : spB hi f x = true := by simp [spB, c, Int32.not_lt.mp c9, Int32.not_lt.mp c15, Int32.not_lt.mp (show ¬ 9999 < hi 39 32 + x from c33)]
          rw [this] at hQ
          refine wq_iconst q119_36 ?_
          refine wq_goto q119_37 ?_
          refine rI q119_41 rfl ?_
          exact hQ
end ASK
