/-! THE REFERENCE reads a fort -/
/-- the reference's scratch -/
def rsC : List Nat := [58, 62, 64, 66, 68, 69, 70, 72, 73]
def rsK : List Nat := [0, 8, 9, 10, 11, 12, 13, 14, 17, 28, 29, 31, 40, 41]
def RS (hi hi' : Nat → Nat → Int32) : Prop := (∀ a, a ∉ rsC → hi' a = hi a) ∧ (∀ k, k ∉ rsK → hi' 58 k = hi 58 k) ∧ (∀ j, j < 192 → hi' 69 j = hi 69 j) ∧ (∀ j, j < 4 → hi' 70 j = hi 70 j)
theorem RS.rf {hi : Nat → Nat → Int32} : RS hi hi := ⟨fun _ _ => rfl, fun _ _ => rfl, fun _ _ => rfl, fun _ _ => rfl⟩
theorem RS.tr {hi hi1 hi2 : Nat → Nat → Int32} (h : RS hi hi1) (h' : RS hi1 hi2) : RS hi hi2 := ⟨fun a ha => (h'.1 a ha).trans (h.1 a ha), fun a ha => (h'.2.1 a ha).trans (h.2.1 a ha), fun j hj => (h'.2.2.1 j hj).trans (h.2.2.1 j hj), fun j hj => (h'.2.2.2 j hj).trans (h.2.2.2 j hj)⟩
theorem RS.upK {hi : Nat → Nat → Int32} {k : Nat} (hk : k ∈ rsK) (x : Int32) : RS hi (up2 hi 58 k x) := by
  refine ⟨fun a ha => up2_o _ _ _ (fun z => ha (by rw [z]; decide)), fun j hj => ?_, fun j _ => rfl, fun j _ => rfl⟩
  rw [up2_s, vu_o _ _ (fun z => hj (by rw [z]; exact hk))]
theorem RS.upC {hi : Nat → Nat → Int32} {a : Nat} (ha : a ∈ rsC) (h58 : a ≠ 58 ∧ a ≠ 69 ∧ a ≠ 70) (F : Nat → Int32) : RS hi (upC hi a F) := by
  refine ⟨fun b hb => upC_o _ _ (fun z => hb (by rw [z]; exact ha)), fun j hj => ?_, fun j _ => ?_, fun j _ => ?_⟩
  · rw [upC_o _ _ (Ne.symm h58.1)]
  · rw [upC_o _ _ (Ne.symm h58.2.1)]
  · rw [upC_o _ _ (Ne.symm h58.2.2)]
theorem RS.rp {hi : Nat → Nat → Int32} (p : Nat) (fl dp : Int32) : RS hi (rpS hi p fl dp) := ((RS.upK (by decide) _).tr (RS.upK (by decide) _)).tr (RS.upK (by decide) _)
theorem iiB_i {x a b : Int32} : iiB x.toInt64 a.toInt64 b.toInt64 = true ↔ a ≤ x ∧ x ≤ b := by
  unfold iiB
  simp only [Bool.and_eq_true, decide_eq_true_eq]
  rw [← Int64.not_lt, ← Int64.not_lt, i64_lt, i64_lt, Int32.not_lt, Int32.not_lt]
def kdJ (j : Nat) : Int32 := if j = 0 then 115 else if j = 1 then 99 else 118
def mV (c w : Int32) : Int32 := if c = 115 then (if w = 0 then 6 else if w = 1 then 60 else if w = 2 then 99 else 9) else if c = 118 then (if w = 0 then 9 else 10) else (if w = 0 then 30 else if w = 1 then 9 else if w = 2 then 10 else if w = 3 then 6 else 99)
def lV (c w : Int32) : Int32 := if (c = 115 ∧ (w = 1 ∨ w = 2)) ∨ (c = 118 ∧ w = 0) then 1 else 0
def uV (c w : Int32) : Int32 := if c = 115 then (if w = 0 then 0 else if w = 1 then 20 else if w = 2 then 40 else 1) else if c = 118 then (if w = 0 then 3 else 5) else (if w = 0 then 4 else if w = 1 then 3 else if w = 2 then 9 else if w = 3 then 6 else 5)
theorem mlu_ok : ∀ j, j < 3 → ∀ k, k < cN j → mV (kdJ j) (nI k) = fHi j k ∧ lV (kdJ j) (nI k) = fLo j k ∧ uV (kdJ j) (nI k) = fU j k := by decide
theorem sw_ne {w k : Int32} {m : Int} (h : w.toInt < 0 ∨ m < w.toInt) (hk : 0 ≤ k.toInt ∧ k.toInt ≤ m) : ¬ w = k := by
  rintro rfl
  omega
section REFFORT
variable {G : ph_G} {d f dr t bg L N p j at' n ar : Nat} {hi : Nat → Nat → Int32} {hl : Nat → Nat → Int64} {fl dp : Int32} {Q : Option Value → ph_H → Prop} {b F : Nat → Int32}
theorem c_mostOf {c w : Int32} {h : ph_H} (hQ : Q (some (.int (mV c w))) h) : Ct G (0, 0) d 197 [.int c, .int w] h Q := by
  unfold mV at hQ
  refine Ct_of (ls := [_, _]) m_197.1.2.2.1 (Nat.le_of_ble_eq_true rfl) rfl ?_
  refine wq_iload_n q197_0 rfl ?_
  refine wq_bipush q197_1 ?_
  refine wq_icmp_ne q197_3 (fun c3 => ?_) (fun c3 => ?_)
  · rw [if_neg c3] at hQ
    refine wq_iload_n q197_38 rfl ?_
    refine wq_bipush q197_39 ?_
    refine wq_icmp_ne q197_41 (fun c41 => ?_) (fun c41 => ?_)
    · rw [if_neg c41] at hQ
      refine wq_iload_n q197_56 rfl ?_
      refine wq_switch q197_57 [88, 91, 94, 97] (by decide) (fun c57 => ?_) (fun i t ht c57 => ?_)
      · rw [if_neg (sw_ne c57 (by decide)), if_neg (sw_ne c57 (by decide)), if_neg (sw_ne c57 (by decide)), if_neg (sw_ne c57 (by decide))] at hQ
        refine wq_bipush q197_100 ?_
        refine rI q197_102 rfl ?_
        exact hQ
      · match i, ht, c57 with
        | 0, ht, c57 =>
          cases ht
          obtain rfl : w = (0 : Int32) := Int32.toInt_inj.mp (by rw [c57]; rfl)
          refine wq_bipush q197_88 ?_
          refine rI q197_90 rfl ?_
          exact hQ
        | 1, ht, c57 =>
          cases ht
          obtain rfl : w = (1 : Int32) := Int32.toInt_inj.mp (by rw [c57]; rfl)
          refine wq_bipush q197_91 ?_
          refine rI q197_93 rfl ?_
          exact hQ
        | 2, ht, c57 =>
          cases ht
          obtain rfl : w = (2 : Int32) := Int32.toInt_inj.mp (by rw [c57]; rfl)
          refine wq_bipush q197_94 ?_
          refine rI q197_96 rfl ?_
          exact hQ
        | 3, ht, c57 =>
          cases ht
          obtain rfl : w = (3 : Int32) := Int32.toInt_inj.mp (by rw [c57]; rfl)
          refine wq_bipush q197_97 ?_
          refine rI q197_99 rfl ?_
          exact hQ
        | i + 4, ht, _ => simp at ht
    · rw [if_pos c41] at hQ
      refine wq_iload_n q197_44 rfl ?_
      refine wq_if_ne q197_45 (fun c45 => ?_) (fun c45 => ?_)
      · rw [if_neg c45] at hQ
        refine wq_bipush q197_53 ?_
        refine rI q197_55 rfl ?_
        exact hQ
      · rw [if_pos c45] at hQ
        refine wq_bipush q197_48 ?_
        refine wq_goto q197_50 ?_
        refine rI q197_55 rfl ?_
        exact hQ
  · rw [if_pos c3] at hQ
    refine wq_iload_n q197_6 rfl ?_
    refine wq_if_ne q197_7 (fun c7 => ?_) (fun c7 => ?_)
    · rw [if_neg c7] at hQ
      refine wq_iload_n q197_15 rfl ?_
      refine wq_iconst q197_16 ?_
      refine wq_icmp_ne q197_17 (fun c17 => ?_) (fun c17 => ?_)
      · rw [if_neg c17] at hQ
        refine wq_iload_n q197_25 rfl ?_
        refine wq_iconst q197_26 ?_
        refine wq_icmp_ne q197_27 (fun c27 => ?_) (fun c27 => ?_)
        · rw [if_neg c27] at hQ
          refine wq_bipush q197_35 ?_
          refine rI q197_37 rfl ?_
          exact hQ
        · rw [if_pos c27] at hQ
          refine wq_bipush q197_30 ?_
          refine wq_goto q197_32 ?_
          refine rI q197_37 rfl ?_
          exact hQ
      · rw [if_pos c17] at hQ
        refine wq_bipush q197_20 ?_
        refine wq_goto q197_22 ?_
        refine rI q197_37 rfl ?_
        exact hQ
    · rw [if_pos c7] at hQ
      refine wq_bipush q197_10 ?_
      refine wq_goto q197_12 ?_
      refine rI q197_37 rfl ?_
      exact hQ
theorem c_leastOf {c w : Int32} {h : ph_H} (hQ : Q (some (.int (lV c w))) h) : Ct G (0, 0) d 198 [.int c, .int w] h Q := by
  unfold lV at hQ
  have tail : ¬ (c = 115 ∧ (w = 1 ∨ w = 2)) → wq G (0, 0) d 198 16 [some (.int c), some (.int w)] [] (0, 0) h Q := by
    intro hz
    refine wq_iload_n q198_16 rfl ?_
    refine wq_bipush q198_17 ?_
    refine wq_icmp_ne q198_19 (fun c19 => ?_) (fun c19 => ?_)
    · rw [if_neg (by rintro (z | z); exact hz z; exact c19 z.1)] at hQ
      refine wq_iconst q198_30 ?_
      refine rI q198_31 rfl ?_
      exact hQ
    · refine wq_iload_n q198_22 rfl ?_
      refine wq_if_ne q198_23 (fun c23 => ?_) (fun c23 => ?_)
      · rw [if_neg (by rintro (z | z); exact hz z; exact c23 z.2)] at hQ
        refine wq_iconst q198_30 ?_
        refine rI q198_31 rfl ?_
        exact hQ
      · rw [if_pos (Or.inr ⟨c19, c23⟩)] at hQ
        refine wq_iconst q198_26 ?_
        refine wq_goto q198_27 ?_
        refine rI q198_31 rfl ?_
        exact hQ
  refine Ct_of (ls := [_, _]) m_198.1.2.2.1 (Nat.le_of_ble_eq_true rfl) rfl ?_
  refine wq_iload_n q198_0 rfl ?_
  refine wq_bipush q198_1 ?_
  refine wq_icmp_ne q198_3 (fun c3 => ?_) (fun c3 => ?_)
  · exact tail (fun z => c3 z.1)
  · refine wq_iload_n q198_6 rfl ?_
    refine wq_iconst q198_7 ?_
    refine wq_icmp_eq q198_8 (fun c8 => ?_) (fun c8 => ?_)
    · rw [if_pos (Or.inl ⟨c3, Or.inl c8⟩)] at hQ
      refine wq_iconst q198_26 ?_
      refine wq_goto q198_27 ?_
      refine rI q198_31 rfl ?_
      exact hQ
    · refine wq_iload_n q198_11 rfl ?_
      refine wq_iconst q198_12 ?_
      refine wq_icmp_eq q198_13 (fun c13 => ?_) (fun c13 => ?_)
      · rw [if_pos (Or.inl ⟨c3, Or.inr c13⟩)] at hQ
        refine wq_iconst q198_26 ?_
        refine wq_goto q198_27 ?_
        refine rI q198_31 rfl ?_
        exact hQ
      · exact tail (fun z => z.2.elim c8 c13)
theorem c_usual {c w : Int32} {h : ph_H} (hQ : Q (some (.int (uV c w))) h) : Ct G (0, 0) d 199 [.int c, .int w] h Q := by
  unfold uV at hQ
  refine Ct_of (ls := [_, _]) m_199.1.2.2.1 (Nat.le_of_ble_eq_true rfl) rfl ?_
  refine wq_iload_n q199_0 rfl ?_
  refine wq_bipush q199_1 ?_
  refine wq_icmp_ne q199_3 (fun c3 => ?_) (fun c3 => ?_)
  · rw [if_neg c3] at hQ
    refine wq_iload_n q199_36 rfl ?_
    refine wq_bipush q199_37 ?_
    refine wq_icmp_ne q199_39 (fun c39 => ?_) (fun c39 => ?_)
    · rw [if_neg c39] at hQ
      refine wq_iload_n q199_52 rfl ?_
      refine wq_switch q199_53 [84, 86, 88, 91] (by decide) (fun c53 => ?_) (fun i t ht c53 => ?_)
      · rw [if_neg (sw_ne c53 (by decide)), if_neg (sw_ne c53 (by decide)), if_neg (sw_ne c53 (by decide)), if_neg (sw_ne c53 (by decide))] at hQ
        refine wq_iconst q199_94 ?_
        refine rI q199_95 rfl ?_
        exact hQ
      · match i, ht, c53 with
        | 0, ht, c53 =>
          cases ht
          obtain rfl : w = (0 : Int32) := Int32.toInt_inj.mp (by rw [c53]; rfl)
          refine wq_iconst q199_84 ?_
          refine rI q199_85 rfl ?_
          exact hQ
        | 1, ht, c53 =>
          cases ht
          obtain rfl : w = (1 : Int32) := Int32.toInt_inj.mp (by rw [c53]; rfl)
          refine wq_iconst q199_86 ?_
          refine rI q199_87 rfl ?_
          exact hQ
        | 2, ht, c53 =>
          cases ht
          obtain rfl : w = (2 : Int32) := Int32.toInt_inj.mp (by rw [c53]; rfl)
          refine wq_bipush q199_88 ?_
          refine rI q199_90 rfl ?_
          exact hQ
        | 3, ht, c53 =>
          cases ht
          obtain rfl : w = (3 : Int32) := Int32.toInt_inj.mp (by rw [c53]; rfl)
          refine wq_bipush q199_91 ?_
          refine rI q199_93 rfl ?_
          exact hQ
        | i + 4, ht, _ => simp at ht
    · rw [if_pos c39] at hQ
      refine wq_iload_n q199_42 rfl ?_
      refine wq_if_ne q199_43 (fun c43 => ?_) (fun c43 => ?_)
      · rw [if_neg c43] at hQ
        refine wq_iconst q199_50 ?_
        refine rI q199_51 rfl ?_
        exact hQ
      · rw [if_pos c43] at hQ
        refine wq_iconst q199_46 ?_
        refine wq_goto q199_47 ?_
        refine rI q199_51 rfl ?_
        exact hQ
  · rw [if_pos c3] at hQ
    refine wq_iload_n q199_6 rfl ?_
    refine wq_if_ne q199_7 (fun c7 => ?_) (fun c7 => ?_)
    · rw [if_neg c7] at hQ
      refine wq_iload_n q199_14 rfl ?_
      refine wq_iconst q199_15 ?_
      refine wq_icmp_ne q199_16 (fun c16 => ?_) (fun c16 => ?_)
      · rw [if_neg c16] at hQ
        refine wq_iload_n q199_24 rfl ?_
        refine wq_iconst q199_25 ?_
        refine wq_icmp_ne q199_26 (fun c26 => ?_) (fun c26 => ?_)
        · rw [if_neg c26] at hQ
          refine wq_iconst q199_34 ?_
          refine rI q199_35 rfl ?_
          exact hQ
        · rw [if_pos c26] at hQ
          refine wq_bipush q199_29 ?_
          refine wq_goto q199_31 ?_
          refine rI q199_35 rfl ?_
          exact hQ
      · rw [if_pos c16] at hQ
        refine wq_bipush q199_19 ?_
        refine wq_goto q199_21 ?_
        refine rI q199_35 rfl ?_
        exact hQ
    · rw [if_pos c7] at hQ
      refine wq_iconst q199_10 ?_
      refine wq_goto q199_11 ?_
      refine rI q199_35 rfl ?_
      exact hQ
theorem c_rnumber {lo hi' : Int32} (hT : RT hi t bg L N b) (hp : p ≤ L) (hQ : ∀ p' v, pNum b L lo hi' p = .inr (p', v) → Q (some (.int v)) (HP (rpS hi p' (-1) dp) hl f dr t)) (hF : ∀ q p' v, pNum b L lo hi' p = .inl q → p' ≤ L → Q (some (.int v)) (HP (rpS hi p' (nI q) dp) hl f dr t)) : Ct G (0, 0) (d + 1) 196 [.ref 58, .int lo, .int hi'] (HP (rpS hi p (-1) dp) hl f dr t) Q := by
  have hLm := hT.2.1
  have hs := tpSkip_le (b := b) hp
  unfold pNum at hQ hF
  generalize hq : tpSkip b L p = q at hs hQ hF
  rw [tpDg, tat_here] at hQ hF
  have fin : ∀ (x3 : Option Value) (v : Int32) (r q2 : Nat), q2 ≤ L → ¬ r = 0 → 1 ≤ q2 → (∀ p' w, pNumX b L lo hi' (v, r, q2) = .inr (p', w) → Q (some (.int w)) (HP (rpS hi p' (-1) dp) hl f dr t)) → (∀ q p' w, pNumX b L lo hi' (v, r, q2) = .inl q → p' ≤ L → Q (some (.int w)) (HP (rpS hi p' (nI q) dp) hl f dr t)) →
      wq G (0, 0) (d + 1) 196 67 [some (.ref 58), some (.int lo), some (.int hi'), x3, some (.int v)] [] (0, 0) (HP (rpS hi q2 (-1) dp) hl f dr t) Q := by
    intro x3 v r q2 hq2 hr h1 kQ kF
    unfold pNumX at kQ kF
    dsimp only at kQ kF
    refine wq_aload_n q196_67 rfl ?_
    refine cV (As := []) q196_68 m_181 rfl rfl rfl ⟨by decide, rfl⟩ rfl (c_risDigit hT hq2 ?_)
    refine wq_if_eq q196_71 (fun c71 => ?_) (fun c71 => ?_)
    · have c := p01 c71
      rw [if_neg (by rintro (z | z); exact hr z; exact c z)] at kQ kF
      refine wq_iload q196_81 rfl ?_
      refine wq_i2l q196_83 ?_
      refine wq_iload_n q196_84 rfl ?_
      refine wq_i2l q196_85 ?_
      refine wq_iload_n q196_86 rfl ?_
      refine wq_i2l q196_87 ?_
      refine cS' (As := [_, _, _]) q196_88 m_170 rfl rfl rfl (c_isIn ?_)
      refine wq_if_ne q196_91 (fun c91 => ?_) (fun c91 => ?_)
      · have c2 := i10 c91
        rw [iiB_i] at c2
        rw [if_neg (by rintro (z | z); exact absurd c2.1 (Int32.not_le.mpr z); exact absurd c2.2 (Int32.not_le.mpr z))] at kQ
        refine wq_iload q196_109 rfl ?_
        refine rI q196_111 rfl ?_
        exact kQ _ _ rfl
      · have c2 : ¬ (lo ≤ v ∧ v ≤ hi') := by rw [← iiB_i, i01 c91]; decide
        rw [if_pos (by
          by_cases z : v < lo
          · exact Or.inl z
          · exact Or.inr (Int32.not_le.mp (fun w => c2 ⟨Int32.not_lt.mp z, w⟩)))] at kF
        have e10 : hI (HP (rpS hi q2 (-1) dp) hl f dr t) 58 10 = nI q2 := rfl
        refine wq_aload_n q196_94 rfl ?_
        refine wq_dup q196_95 rfl ?_
        refine wq_getI q196_96 rfl rfl ?_
        refine wq_iconst q196_99 ?_
        refine wq_isub q196_100 ?_
        refine wq_putI q196_101 rfl rfl rfl rfl ?_
        rw [e10, nI_m1 h1, hpS, rpS_p]
        refine wq_aload_n q196_104 rfl ?_
        refine cV (As := []) q196_105 m_178 rfl rfl rfl ⟨by decide, rfl⟩ rfl (c_rfails ?_)
        refine wq_pop q196_108 rfl ?_
        refine wq_iload q196_109 rfl ?_
        refine rI q196_111 rfl ?_
        rw [tpF_1]
        exact kF _ _ _ rfl (by omega)
    · have c := p10 c71
      rw [if_pos (Or.inr c)] at kF
      refine wq_aload_n q196_74 rfl ?_
      refine cV (As := []) q196_75 m_178 rfl rfl rfl ⟨by decide, rfl⟩ rfl (c_rfails ?_)
      refine wq_pop q196_78 rfl ?_
      refine wq_iconst q196_79 ?_
      refine rI q196_80 rfl ?_
      rw [tpF_1]
      exact kF _ _ _ rfl hq2
  refine Ct_of (ls := [_, _, _, _, _]) m_196.1.2.2.1 (Nat.le_of_ble_eq_true rfl) rfl ?_
  refine wq_aload_n q196_0 rfl ?_
  refine cV (As := []) q196_1 m_177 rfl rfl rfl ⟨by decide, rfl⟩ rfl (c_rlook hT hp ?_)
  refine wq_istore_n (ls' := [_, _, _, _, _]) q196_4 rfl ?_
  refine wq_aload_n q196_5 rfl ?_
  refine cV (As := []) q196_6 m_181 rfl rfl rfl ⟨by decide, rfl⟩ rfl (c_risDigit hT (by rw [hq]; exact hs.2) ?_)
  refine wq_if_ne q196_9 (fun c9 => ?_) (fun c9 => ?_)
  · rw [hq] at c9 ⊢
    have c := p10 c9
    have hlt := tat_dg c
    rw [if_pos c, pass_lt hlt, tpDg, tat_here] at hQ hF
    have e10 : hI (HP (rpS hi q (-1) dp) hl f dr t) 58 10 = nI q := rfl
    have ev : (10 : Int32) * 0 + tat b L q - 48 = tat b L q - 48 := by rw [Int32.mul_zero, Int32.zero_add]
    rw [ev] at hQ hF
    refine wq_iload_n q196_19 rfl ?_
    refine wq_bipush q196_20 ?_
    refine wq_isub q196_22 ?_
    refine wq_istore (ls' := [_, _, _, _, _]) q196_23 rfl ?_
    refine wq_aload_n q196_25 rfl ?_
    refine wq_dup q196_26 rfl ?_
    refine wq_getI q196_27 rfl rfl ?_
    refine wq_iconst q196_30 ?_
    refine wq_iadd q196_31 ?_
    refine wq_putI q196_32 rfl rfl rfl rfl ?_
    rw [e10, nI_1, hpS, rpS_p]
    refine wq_aload_n q196_35 rfl ?_
    refine cV (As := []) q196_36 m_181 rfl rfl rfl ⟨by decide, rfl⟩ rfl (c_risDigit hT (by omega) ?_)
    refine wq_if_eq q196_39 (fun c39 => ?_) (fun c39 => ?_)
    · have c2 := p01 c39
      rw [if_neg c2] at hQ hF
      exact fin _ _ _ _ (by omega) (by omega) (by omega) hQ hF
    · have c2 := p10 c39
      have hlt2 := tat_dg c2
      rw [if_pos c2, pass_lt hlt2, tpDg] at hQ hF
      refine wq_bipush q196_42 ?_
      refine wq_iload q196_44 rfl ?_
      refine wq_imul q196_46 ?_
      refine wq_aload_n q196_47 rfl ?_
      refine cV (As := []) q196_48 m_194 rfl rfl rfl ⟨by decide, rfl⟩ rfl (c_rhere hT (by omega) ?_)
      refine wq_iadd q196_51 ?_
      refine wq_bipush q196_52 ?_
      refine wq_isub q196_54 ?_
      refine wq_istore (ls' := [_, _, _, _, _]) q196_55 rfl ?_
      have e10 : hI (HP (rpS hi (q + 1) (-1) dp) hl f dr t) 58 10 = nI (q + 1) := rfl
      refine wq_aload_n q196_57 rfl ?_
      refine wq_dup q196_58 rfl ?_
      refine wq_getI q196_59 rfl rfl ?_
      refine wq_iconst q196_62 ?_
      refine wq_iadd q196_63 ?_
      refine wq_putI q196_64 rfl rfl rfl rfl ?_
      rw [e10, nI_1, hpS, rpS_p]
      exact fin _ _ _ _ (by omega) (by omega) (by omega) hQ hF
  · rw [hq] at c9 ⊢
    have c := p01 c9
    rw [if_neg c] at hF
    unfold pNumX at hF
    rw [if_pos (Or.inl rfl)] at hF
    refine wq_aload_n q196_12 rfl ?_
    refine cV (As := []) q196_13 m_178 rfl rfl rfl ⟨by decide, rfl⟩ rfl (c_rfails ?_)
    refine wq_pop q196_16 rfl ?_
    refine wq_iconst q196_17 ?_
    refine rI q196_18 rfl ?_
    rw [tpF_1]
    exact hF _ _ _ rfl hs.2
/-- an array of items that the reference reads into -/
def ArR (ar n : Nat) : Prop := (ar = 64 ∧ n = 4) ∨ (ar = 66 ∧ n = 35) ∨ (ar = 68 ∧ n = 12)
theorem ArR.sh (h : ArR ar n) (hi : Nat → Nat → Int32) (hl : Nat → Nat → Int64) (f dr t : Nat) : (hS (HP hi hl f dr t))[ar]? = some (100, n) ∧ ar ≠ 58 ∧ ar ≠ 59 ∧ ar ≠ 60 ∧ n ≤ 35 := by
  rcases h with ⟨rfl, rfl⟩ | ⟨rfl, rfl⟩ | ⟨rfl, rfl⟩ <;> exact ⟨rfl, by decide, by decide, by decide, by decide⟩
theorem RT.upA (h : RT hi t bg L N b) {a : Nat} (ha : a ≠ 58 ∧ a ≠ 59 ∧ a ≠ 60) (Z : Nat → Int32) : RT (upC hi a Z) t bg L N b := by
  have : t ≠ a := by
    rcases h.1 with ⟨rfl, -⟩ | ⟨rfl, -⟩
    · exact Ne.symm ha.2.1
    · exact Ne.symm ha.2.2
  exact h.moved (upC_o _ _ this) (by rw [upC_o _ _ (Ne.symm ha.1)]) (by rw [upC_o _ _ (Ne.symm ha.1)])
theorem rpS_C {a : Nat} (ha : a ≠ 58) (i : Nat) (x : Int32) (Z : Nat → Int32) : up2 (rpS (upC hi a Z) p fl dp) a i x = rpS (upC hi a (va_up Z i x)) p fl dp := by
  unfold rpS
  rw [up2_comm _ _ _ (Or.inl (Ne.symm ha)), up2_comm _ (b := a) (j := i) _ _ (Or.inl (Ne.symm ha)), up2_comm _ (b := a) (j := i) _ _ (Or.inl (Ne.symm ha)), show up2 (upC hi a Z) a i x = upC hi a (va_up Z i x) by rw [up2_C, upC_s, upC_C]]
theorem c_ritems_loop (hj : j < 3) (hA : ArR ar n) (hat : at' + cN j ≤ n) (hT : RT hi t bg L N b) :
    ∀ (m p x : Nat) (A : Nat → Int32), p ≤ L → x < 32 → unC j x < m →
    (∀ p' A', pItems b L j m p x A = .inr (p', A') → Q none (HP (rpS (upC hi ar (ovl F at' (cN j) A')) p' (-1) dp) hl f dr t)) →
    (∀ q p' A', pItems b L j m p x A = .inl q → p' ≤ L → Q none (HP (rpS (upC hi ar (ovl F at' (cN j) A')) p' (nI q) dp) hl f dr t)) →
    wq G (0, 0) (d + 5) 200 45 [some (.ref 58), some (.int (kdJ j)), some (.ref ar), some (.int (nI at')), some (.ref (1000 + (20 + j))), some (.int (nI x)), some (.int (liO j (tat b L (tpSkip b L p))))] [] (0, 0) (HP (rpS (upC hi ar (ovl F at' (cN j) A)) (tpSkip b L p) (-1) dp) hl f dr t) Q := by
  obtain ⟨-, ar1, ar2, ar3, n35⟩ := hA.sh hi hl f dr t
  obtain ⟨hc5, hc1⟩ := cN3 j hj
  have hLm := hT.2.1
  have hTA : ∀ A, RT (upC hi ar A) t bg L N b := fun A => hT.upA ⟨ar1, ar2, ar3⟩ A
  intro m
  induction m with
  | zero => intro p x A hp hx hu; omega
  | succ m ih =>
    intro p x A hp hx hu hQ hF
    have hs := tpSkip_le (b := b) hp
    rw [pItems] at hQ hF
    generalize hq : tpSkip b L p = q at hs hQ hF
    generalize hc : tat b L q = c at hQ hF
    rcases liO_nm (j := j) (x := c) (by omega) with z | ⟨i, i1, i2, i3⟩
    · rw [z] at hQ ⊢
      rw [if_pos rfl] at hQ
      refine wq_iload q200_45 rfl ?_
      refine wq_iconst q200_47 ?_
      refine wq_icmp_eq q200_48 (fun c48 => ?_) (fun c48 => ?_)
      · refine rV q200_138 ?_
        exact hQ q A rfl
      · exact absurd rfl c48
    · have hi5 : i < 5 := by omega
      rw [i2, nI_clamp (by omega), if_neg (nI_nm1 (by omega))] at hQ hF
      rw [i2]
      obtain ⟨hd1, hd2, hd3⟩ := hd_ok x hx i hi5
      have hlt : q < L := tat_lt hc (fun z => by have := (cB_ok j (by omega) i (by omega)).1; rw [i3, z] at this; exact absurd this (by decide))
      have e11 : hI (HP (rpS (upC hi ar (ovl F at' (cN j) A)) q (-1) dp) hl f dr t) 58 11 = -1 := rfl
      have e10 : hI (HP (rpS (upC hi ar (ovl F at' (cN j) A)) q (-1) dp) hl f dr t) 58 10 = nI q := rfl
      refine wq_iload q200_45 rfl ?_
      refine wq_iconst q200_47 ?_
      refine wq_icmp_eq q200_48 (fun c48 => ?_) (fun c48 => ?_)
      · exact absurd c48 (nI_nm1 (by omega))
      · refine wq_aload_n q200_51 rfl ?_
        refine wq_getI q200_52 rfl rfl ?_
        refine wq_iconst q200_55 ?_
        refine wq_icmp_ne q200_56 (fun c56 => ?_) (fun c56 => ?_)
        · exact absurd e11 c56
        · refine wq_iload q200_59 rfl ?_
          refine wq_iload q200_61 rfl ?_
          refine cS' (As := [_, _]) q200_63 m_171 rfl rfl rfl (c_rhas ?_)
          refine wq_if_eq q200_66 (fun c66 => ?_) (fun c66 => ?_)
          · have hbit : x.testBit i = false := by rw [← hd1]; exact i01 c66
            rw [hbit, if_neg (by decide)] at hQ hF
            have hn := pNum_ok (b := b) (L := L) (lo := fLo j i) (hi := fHi j i) (p := q + 1) (by omega)
            obtain ⟨v1, v2, v3⟩ := mlu_ok j hj i i1
            have hu' := unC_ok j hj x hx i i1 hbit
            refine wq_iload q200_75 rfl ?_
            refine wq_iconst q200_77 ?_
            refine wq_iload q200_78 rfl ?_
            refine wq_ishl q200_80 ?_
            refine wq_ior q200_81 ?_
            refine wq_istore (ls' := [_, _, _, _, _, _, _]) q200_82 rfl ?_
            rw [hd2]
            refine wq_aload_n q200_84 rfl ?_
            refine wq_dup q200_85 rfl ?_
            refine wq_getI q200_86 rfl rfl ?_
            refine wq_iconst q200_89 ?_
            refine wq_iadd q200_90 ?_
            refine wq_putI q200_91 rfl rfl rfl rfl ?_
            rw [e10, nI_1, hpS, rpS_p]
            refine wq_aload_n q200_94 rfl ?_
            refine wq_iload_n q200_95 rfl ?_
            refine wq_iload q200_96 rfl ?_
            refine wq_iadd q200_98 ?_
            refine wq_aload_n q200_99 rfl ?_
            refine wq_iload_n q200_100 rfl ?_
            refine wq_iload q200_101 rfl ?_
            refine cS' (As := [_, _]) q200_103 m_198 rfl rfl rfl (c_leastOf ?_)
            rw [v2]
            refine wq_iload_n q200_106 rfl ?_
            refine wq_iload q200_107 rfl ?_
            refine cS' (As := [_, _]) q200_109 m_197 rfl rfl rfl (c_mostOf ?_)
            rw [v1]
            refine cV (As := [_, _]) q200_112 m_196 rfl rfl rfl ⟨by decide, rfl⟩ rfl (c_rnumber (hTA _) (by omega) (fun p1 w1 h1 => ?_) (fun q1 p1 w1 h1 hp1 => ?_))
            · obtain ⟨g1, g2, g3, g4, g5, -⟩ := hn.2 p1 w1 h1
              obtain ⟨hsh, -⟩ := hA.sh (rpS (upC hi ar (ovl F at' (cN j) A)) p1 (-1) dp) hl f dr t
              rw [h1, pB_r] at hQ hF
              refine sI q200_115 (by first | exact hsh | rfl) (nI_add _ _) (by omega) (by first | decide | omega) (by first | exact hsh | rfl) ?_
              rw [hpS, rpS_C ar1, ovl_up i1]
              have e11' : hI (HP (rpS (upC hi ar (ovl F at' (cN j) (va_up A i w1))) p1 (-1) dp) hl f dr t) 58 11 = -1 := rfl
              refine wq_aload_n q200_116 rfl ?_
              refine wq_getI q200_117 rfl rfl ?_
              refine wq_iconst q200_120 ?_
              refine wq_icmp_ne q200_121 (fun c121 => ?_) (fun c121 => ?_)
              · exact absurd e11' c121
              · refine wq_aload q200_124 rfl ?_
                refine wq_aload_n q200_126 rfl ?_
                refine cV (As := []) q200_127 m_177 rfl rfl rfl ⟨by decide, rfl⟩ rfl (c_rlook (hTA _) g5 ?_)
                refine cS' (As := [_, _]) q200_130 m_195 rfl rfl rfl (c_spotOf (j := j) (by omega) ?_)
                refine wq_istore (ls' := [_, _, _, _, _, _, _]) q200_133 rfl ?_
                refine wq_goto q200_135 ?_
                exact ih p1 (x ||| 2 ^ i) (va_up A i w1) g5 hd3 (by omega) hQ hF
            · obtain ⟨g1, g2, g3⟩ := hn.1 q1 h1
              obtain ⟨hsh, -⟩ := hA.sh (rpS (upC hi ar (ovl F at' (cN j) A)) p1 (nI q1) dp) hl f dr t
              rw [h1] at hF
              refine sI q200_115 (by first | exact hsh | rfl) (nI_add _ _) (by omega) (by first | decide | omega) (by first | exact hsh | rfl) ?_
              rw [hpS, rpS_C ar1, ovl_up i1]
              refine wq_aload_n q200_116 rfl ?_
              refine wq_getI q200_117 rfl rfl ?_
              refine wq_iconst q200_120 ?_
              refine wq_icmp_ne q200_121 (fun c121 => ?_) (fun c121 => ?_)
              · refine wq_iload q200_45 rfl ?_
                refine wq_iconst q200_47 ?_
                refine wq_icmp_eq q200_48 (fun c48 => ?_) (fun c48 => ?_)
                · exact absurd c48 (by assumption)
                · refine wq_aload_n q200_51 rfl ?_
                  refine wq_getI q200_52 rfl rfl ?_
                  refine wq_iconst q200_55 ?_
                  refine wq_icmp_ne q200_56 (fun c56 => ?_) (fun c56 => ?_)
                  · refine rV q200_138 ?_
                    exact hF q1 p1 _ rfl hp1
                  · exact absurd c56 (nI_nm1 (by omega))
              · exact absurd c121 (nI_nm1 (by omega))
          · have hbit : x.testBit i = true := by rw [← hd1]; exact i10 c66
            rw [if_pos hbit] at hF
            refine wq_aload_n q200_69 rfl ?_
            refine cV (As := []) q200_70 m_178 rfl rfl rfl ⟨by decide, rfl⟩ rfl (c_rfails ?_)
            refine wq_pop q200_73 rfl ?_
            refine rV q200_74 ?_
            rw [tpF_1]
            exact hF q q A rfl hs.2
theorem c_ritems_us {x6 : Option Value} (hj : j < 3) (hA : ArR ar n) (hat : at' + cN j ≤ n) : ∀ (m k : Nat), k + m = cN j → (∀ x5, wq G (0, 0) (d + 5) 200 31 [some (.ref 58), some (.int (kdJ j)), some (.ref ar), some (.int (nI at')), some (.ref (1000 + (20 + j))), x5, x6] [] (0, 0) (HP (rpS (upC hi ar (ovl F at' (cN j) (fU j))) p (-1) dp) hl f dr t) Q) →
    wq G (0, 0) (d + 5) 200 3 [some (.ref 58), some (.int (kdJ j)), some (.ref ar), some (.int (nI at')), some (.ref (1000 + (20 + j))), some (.int (nI k)), x6] [] (0, 0) (HP (rpS (upC hi ar (ovl F at' k (fU j))) p (-1) dp) hl f dr t) Q := by
  obtain ⟨-, ar1, ar2, ar3, n35⟩ := hA.sh hi hl f dr t
  obtain ⟨hc5, hc1⟩ := cN3 j hj
  intro m
  induction m with
  | zero =>
    intro k hm K
    obtain rfl : k = cN j := by omega
    refine wq_iload q200_3 rfl ?_
    refine wq_aload q200_5 rfl ?_
    refine cT (As := []) q200_7 m_301 rfl rfl (by omega) rfl (c_length (j := j) (by omega) ?_)
    refine wq_icmp_ge q200_10 (fun c10 => ?_) (fun c10 => ?_)
    · exact K _
    · exact absurd (Int32.le_refl _) c10
  | succ m ih =>
    intro k hm K
    obtain ⟨hsh, -⟩ := hA.sh (rpS (upC hi ar (ovl F at' k (fU j))) p (-1) dp) hl f dr t
    obtain ⟨v1, v2, v3⟩ := mlu_ok j hj k (by omega)
    refine wq_iload q200_3 rfl ?_
    refine wq_aload q200_5 rfl ?_
    refine cT (As := []) q200_7 m_301 rfl rfl (by omega) rfl (c_length (j := j) (by omega) ?_)
    refine wq_icmp_ge q200_10 (fun c10 => ?_) (fun c10 => ?_)
    · rw [nI_leI (by omega) (by omega)] at c10
      omega
    · refine wq_aload_n q200_13 rfl ?_
      refine wq_iload_n q200_14 rfl ?_
      refine wq_iload q200_15 rfl ?_
      refine wq_iadd q200_17 ?_
      refine wq_iload_n q200_18 rfl ?_
      refine wq_iload q200_19 rfl ?_
      refine cS' (As := [_, _]) q200_21 m_199 rfl rfl rfl (c_usual ?_)
      rw [v3]
      refine sI q200_24 (by first | exact hsh | rfl) (nI_add _ _) (by omega) (by first | decide | omega) (by first | exact hsh | rfl) ?_
      refine wq_iinc (ls' := [_, _, _, _, _, _, _]) q200_25 rfl rfl ?_
      refine wq_goto q200_28 ?_
      have e : va_up (ovl F at' k (fU j)) (at' + k) (fU j k) = ovl F at' (k + 1) (fU j) := by
        funext i
        unfold ovl
        by_cases h : i = at' + k
        · subst h
          rw [vu_s, if_pos (by omega), show at' + k - at' = k by omega]
        · rw [vu_o _ _ h]
          by_cases h2 : at' ≤ i ∧ i < at' + k
          · rw [if_pos h2, if_pos (by omega)]
          · rw [if_neg h2, if_neg (by omega)]
      rw [hpS, rpS_C ar1, e, nI_1]
      exact ih (k + 1) (by omega) K
theorem c_ritems (hj : j < 3) (hA : ArR ar n) (hat : at' + cN j ≤ n) (hT : RT hi t bg L N b) (hp : p ≤ L)
    (hQ : ∀ p' A', pItems b L j (cN j + 1) p 0 (fU j) = .inr (p', A') → Q none (HP (rpS (upC hi ar (ovl (hi ar) at' (cN j) A')) p' (-1) dp) hl f dr t))
    (hF : ∀ q p' A', pItems b L j (cN j + 1) p 0 (fU j) = .inl q → p' ≤ L → Q none (HP (rpS (upC hi ar (ovl (hi ar) at' (cN j) A')) p' (nI q) dp) hl f dr t)) :
    Ct G (0, 0) (d + 5) 200 [.ref 58, .int (kdJ j), .ref ar, .int (nI at'), .ref (1000 + (20 + j))] (HP (rpS hi p (-1) dp) hl f dr t) Q := by
  obtain ⟨-, ar1, ar2, ar3, n35⟩ := hA.sh hi hl f dr t
  have hTA : ∀ A, RT (upC hi ar A) t bg L N b := fun A => hT.upA ⟨ar1, ar2, ar3⟩ A
  have e0 : hi = upC hi ar (ovl (hi ar) at' 0 (fU j)) := by
    rw [upC_self]
    exact ovl_self (fun k hk => by omega)
  have hun : unC j 0 < cN j + 1 := by
    have : ∀ j, j < 3 → unC j 0 < cN j + 1 := by decide
    exact this j hj
  refine Ct_of (ls := [_, _, _, _, _, _, _]) m_200.1.2.2.1 (Nat.le_of_ble_eq_true rfl) rfl ?_
  refine wq_iconst q200_0 ?_
  refine wq_istore (ls' := [_, _, _, _, _, _, _]) q200_1 rfl ?_
  rw [show HP (rpS hi p (-1) dp) hl f dr t = HP (rpS (upC hi ar (ovl (hi ar) at' 0 (fU j))) p (-1) dp) hl f dr t from by rw [← e0]]
  refine c_ritems_us hj hA hat (cN j) 0 (by omega) (fun x5 => ?_)
  refine wq_iconst q200_31 ?_
  refine wq_istore (ls' := [_, _, _, _, _, _, _]) q200_32 rfl ?_
  refine wq_aload q200_34 rfl ?_
  refine wq_aload_n q200_36 rfl ?_
  refine cV (As := []) q200_37 m_177 rfl rfl rfl ⟨by decide, rfl⟩ rfl (c_rlook (hTA _) hp ?_)
  refine cS' (As := [_, _]) q200_40 m_195 rfl rfl rfl (c_spotOf (j := j) (by omega) ?_)
  refine wq_istore (ls' := [_, _, _, _, _, _, _]) q200_43 rfl ?_
  exact c_ritems_loop hj hA hat hT (cN j + 1) p 0 (fU j) hp (by decide) hun hQ hF
end REFFORT
