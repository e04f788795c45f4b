/-! THE REFERENCE: what is asked -/
theorem iiB_inB {x : Int32} {b : Int64} (b' m : Int32) (hb : b'.toInt64 = b) (hm : m.toInt = b'.toInt + 1) : iiB x.toInt64 0 b = inB x m := by
  have h := iiB_in (x := x) (a := 0) (b := b) 0 b' rfl hb
  rw [Bool.eq_iff_iff, h]
  unfold inB
  simp only [Bool.and_eq_true, decide_eq_true_eq]
  rw [Int32.le_iff_toInt_le, Int32.le_iff_toInt_le, Int32.lt_iff_toInt_lt]
  omega
theorem iiB_4 {x : Int32} : iiB x.toInt64 0 3 = inB x 4 := iiB_inB 3 4 rfl rfl
theorem iiB_7 {x : Int32} : iiB x.toInt64 0 6 = inB x 7 := iiB_inB 6 7 rfl rfl
theorem iiB_02 {x : Int32} : iiB x.toInt64 0 2 = true ↔ 0 ≤ x ∧ x ≤ 2 := iiB_in 0 2 rfl rfl
theorem iiB_lg {x : Int32} {lg : Nat} (hlg : lg ≤ 60) : iiB x.toInt64 0 (nI lg - 1).toInt64 = inB x (nI lg) := by
  refine iiB_inB (nI lg - 1) (nI lg) rfl ?_
  rw [show (1 : Int32) = nI 1 from rfl, pk_sub_toInt (by omega) (by omega), nI_toInt (by omega)]
  omega
theorem bit01 {x : Int32} {e : Nat} (he : e < 31) : (x >>> (nI e &&& 31)) &&& 1 = if hsB x (nI e) = true then 1 else 0 := by
  rw [hsB_bt he]
  refine b_ext (fun i hi => ?_)
  rw [b_and, b_1]
  by_cases h0 : i = 0
  · subst h0
    rw [b_sshr e (by omega) x (by decide), if_pos (by omega), Nat.add_zero]
    cases bt x e with
    | true => rfl
    | false => rfl
  · rw [decide_eq_false h0, Bool.and_false]
    split
    · rw [b_1, decide_eq_false h0]
    · rw [b_0]
section REFASK
variable {G : ph_G} {d f dr t n r ev wi sz lg a : Nat} {hi hi' : Nat → Nat → Int32} {hl : Nat → Nat → Int64} {Q : Option Value → ph_H → Prop} {row : Nat → Int32} {lw : Option Nat}
theorem c_rthrown (hQ : Q (some (.int (hi 58 0))) (HP hi hl f dr t)) : Ct G (0, 0) d 169 [.ref 58] (HP hi hl f dr t) Q := by
  refine Ct_of (ls := [_]) m_169.1.2.2.1 (Nat.le_of_ble_eq_true rfl) rfl ?_
  refine wq_aload_n q169_0 rfl ?_
  refine wq_getI q169_1 rfl rfl ?_
  refine rI q169_4 rfl ?_
  exact hQ
theorem c_rrule {x : Int32} (h0 : ¬ (0 < hi 58 26 ∧ inB x 4 = true) → Q (some (.int (-1))) (HP (up2 hi 58 0 0) hl f dr t)) (h1 : ∀ j, j < 4 → x = nI j → 0 < hi 58 26 → Q (some (.int (hi 63 j))) (HP (up2 hi 58 0 0) hl f dr t)) : Ct G (0, 0) (d + 1) 222 [.ref 58, .int x] (HP hi hl f dr t) Q := by
  have e26 : hI (HP (up2 hi 58 0 0) hl f dr t) 58 26 = hi 58 26 := rfl
  refine Ct_of (ls := [_, _]) m_222.1.2.2.1 (Nat.le_of_ble_eq_true rfl) rfl ?_
  refine wq_aload_n q222_0 rfl ?_
  refine wq_iconst q222_1 ?_
  refine wq_putI q222_2 rfl rfl rfl rfl ?_
  rw [hpS]
  refine wq_aload_n q222_5 rfl ?_
  refine wq_getI q222_6 rfl rfl ?_
  refine wq_if_le q222_9 (fun c9 => ?_) (fun c9 => ?_)
  · rw [e26] at c9
    refine wq_iconst q222_33 ?_
    refine rI q222_34 rfl ?_
    exact h0 (fun z => absurd z.1 (Int32.not_lt.mpr c9))
  · rw [e26] at c9
    refine wq_iload_n q222_12 rfl ?_
    refine wq_i2l q222_13 ?_
    refine wq_lconst q222_14 ?_
    refine wq_ldc2_w q222_15 ?_
    refine cS' (As := [_, _, _]) q222_18 m_170 rfl rfl rfl (c_isIn ?_)
    refine wq_if_eq q222_21 (fun c21 => ?_) (fun c21 => ?_)
    · have c := i01 c21
      rw [iiB_4] at c
      refine wq_iconst q222_33 ?_
      refine rI q222_34 rfl ?_
      exact h0 (fun z => by rw [z.2] at c; cases c)
    · have c := i10 c21
      rw [iiB_4] at c
      obtain ⟨j, hj, rfl⟩ := inB_N (m := 4) (by omega) c
      refine wq_aload_n q222_24 rfl ?_
      refine wq_getR q222_25 rfl rfl rfl ?_
      refine wq_iload_n q222_28 rfl ?_
      refine aI q222_29 rfl (rfl) (by show j < 4; omega) (by first | decide | omega) ?_
      refine wq_goto q222_30 ?_
      refine rI q222_34 rfl ?_
      exact h1 j hj rfl (Int32.not_le.mp c9)
/-- what is asked of a prisoner, by a row -/
def prX (hi : Nat → Nat → Int32) (f n : Nat) (row : Nat → Int32) (p : Nat) (w : Int32) : Int32 :=
  if w = 0 then nI (ceOf row (nI p) (n - 1) 0) else if w = 1 then hi (f + 2) (p * 5 + 1) else if w = 2 then hi (f + 2) (p * 5 + 2) else if w = 3 then lvO hi f p
  else if w = 4 then row (7 + p) else if w = 5 then row (21 + p) else row (14 + p)
theorem c_rprisoner {p w : Int32} (hF : RF hi f lw sz n ev wi) (hw : RW n row (hi 71)) (hk : KN n row (hi 71)) (h0 : ¬ (inB p (nI n) = true ∧ inB w 7 = true) → Q (some (.int 0)) (HP (up2 hi 58 0 1) hl f dr t)) (h1 : ∀ j, j < n → p = nI j → inB w 7 = true → Q (some (.int (prX hi f n row j w))) (HP (up2 hi 58 0 0) hl f dr t)) : Ct G (0, 0) (d + 1) 223 [.ref 58, .int p, .int w] (HP hi hl f dr t) Q := by
  have hn := hF.2.1.1
  have hev := hF.2.1.2.2.1
  have e26 : hi 58 26 = nI n := hF.2.2.1.1
  have bad : Q (some (.int 0)) (HP (up2 hi 58 0 1) hl f dr t) → wq G (0, 0) (d + 1) 223 25 [some (.ref 58), some (.int p), some (.int w)] [.ref 58] (0, 0) (HP hi hl f dr t) Q := by
    intro hq
    have et : hI (HP (up2 hi 58 0 1) hl f dr t) 58 0 = 1 := rfl
    refine wq_iconst q223_25 ?_
    refine wq_putI q223_26 rfl rfl rfl rfl ?_
    rw [hpS]
    refine wq_aload_n q223_29 rfl ?_
    refine wq_getI q223_30 rfl rfl ?_
    refine wq_if_le q223_33 (fun c33 => ?_) (fun c33 => ?_)
    · rw [et] at c33
      exact absurd c33 (by decide)
    · refine wq_iconst q223_36 ?_
      refine rI q223_37 rfl ?_
      exact hq
  refine Ct_of (ls := [_, _, _]) m_223.1.2.2.1 (Nat.le_of_ble_eq_true rfl) rfl ?_
  refine wq_aload_n q223_0 rfl ?_
  refine wq_aload_n q223_1 rfl ?_
  refine wq_iload_n q223_2 rfl ?_
  refine cV (As := [_]) q223_3 m_209 rfl rfl rfl ⟨by decide, rfl⟩ rfl (c_risPrisoner ?_)
  refine wq_if_eq q223_6 (fun c6 => ?_) (fun c6 => ?_)
  · have c := i01 c6
    rw [e26] at c
    exact bad (h0 (fun z => by rw [z.1] at c; cases c))
  · have c := i10 c6
    rw [e26] at c
    obtain ⟨j, hj, rfl⟩ := inB_N (m := n) (by omega) c
    refine wq_iload_n q223_9 rfl ?_
    refine wq_i2l q223_10 ?_
    refine wq_lconst q223_11 ?_
    refine wq_ldc2_w q223_12 ?_
    refine cS' (As := [_, _, _]) q223_15 m_170 rfl rfl rfl (c_isIn ?_)
    refine wq_if_eq q223_18 (fun c18 => ?_) (fun c18 => ?_)
    · have c := i01 c18
      rw [iiB_7] at c
      exact bad (h0 (fun z => by rw [z.2] at c; cases c))
    · have c := i10 c18
      rw [iiB_7] at c
      have h1 := h1 j hj rfl c
      have et : hI (HP (up2 hi 58 0 0) hl f dr t) 58 0 = 0 := rfl
      obtain ⟨m, hm, rfl⟩ := inB_N (m := 7) (by omega) c
      obtain ⟨cc, hcc, k1, k2⟩ := hw.2.1 j hj
      have x0 : hI (HP (up2 hi 58 0 0) hl f dr t) 71 (4 * j) = nI cc := k1
      have x1 : hI (HP (up2 hi 58 0 0) hl f dr t) 71 (4 * j + 1) = row (7 + j) := hw.2.2.1 j hj
      have x2 : hI (HP (up2 hi 58 0 0) hl f dr t) 71 (4 * j + 2) = row (21 + j) := hk j hj
      have x3 : hI (HP (up2 hi 58 0 0) hl f dr t) 71 (4 * j + 3) = row (14 + j) := hw.2.2.2.1 j hj
      have y1 : up2 hi 58 0 0 65 (j * 5 + 1) = hi (f + 2) (j * 5 + 1) := hF.2.2.1.2.2.2.1 _ (by omega)
      have y2 : up2 hi 58 0 0 65 (j * 5 + 2) = hi (f + 2) (j * 5 + 2) := hF.2.2.1.2.2.2.1 _ (by omega)
      have y3 : up2 hi 58 0 0 65 (j * 5 + 3) = hi (f + 2) (j * 5 + 3) := hF.2.2.1.2.2.2.1 _ (by omega)
      have e27 : hI (HP (up2 hi 58 0 0) hl f dr t) 58 27 = hi f 4 := hF.2.2.1.2.1.trans hF.2.1.2.2.2.2.2.1.symm
      refine wq_iconst q223_21 ?_
      refine wq_goto q223_22 ?_
      refine wq_putI q223_26 rfl rfl rfl rfl ?_
      rw [hpS]
      refine wq_aload_n q223_29 rfl ?_
      refine wq_getI q223_30 rfl rfl ?_
      refine wq_if_le q223_33 (fun c33 => ?_) (fun c33 => ?_)
      · refine wq_iload_n q223_38 rfl ?_
        refine wq_switch q223_39 [76, 87, 94, 101, 125, 136] (by decide) (fun c39 => ?_) (fun i t' ht c39 => ?_)
        · have : m = 6 := by
            rw [nI_toInt (by omega)] at c39
            omega
          subst this
          refine wq_aload_n q223_147 rfl ?_
          refine wq_getR q223_148 rfl rfl rfl ?_
          refine wq_iconst q223_151 ?_
          refine wq_iload_n q223_152 rfl ?_
          refine wq_imul q223_153 ?_
          refine wq_iconst q223_154 ?_
          refine wq_iadd q223_155 ?_
          refine aI q223_156 rfl (ix3 j) (by show 4 * j + 3 < 214; omega) (by first | decide | omega) ?_
          rw [x3]
          refine rI q223_157 rfl ?_
          exact h1
        · rw [nI_toInt (by omega)] at c39
          match i, ht, c39 with
          | 0, ht, c39 =>
            cases ht
            obtain rfl : m = 0 := by omega
            rw [show prX hi f n row j (nI 0) = nI cc by unfold prX; rw [if_pos (show nI 0 = 0 from rfl), hw.ce hn hcc hj k2]] at h1
            refine wq_aload_n q223_76 rfl ?_
            refine wq_getR q223_77 rfl rfl rfl ?_
            refine wq_iconst q223_80 ?_
            refine wq_iload_n q223_81 rfl ?_
            refine wq_imul q223_82 ?_
            refine wq_iconst q223_83 ?_
            refine wq_iadd q223_84 ?_
            refine aI q223_85 rfl (ix0 j) (by show 4 * j < 214; omega) (by first | decide | omega) ?_
            rw [x0]
            refine rI q223_86 rfl ?_
            exact h1
          | 1, ht, c39 =>
            cases ht
            obtain rfl : m = 1 := by omega
            refine wq_aload_n q223_87 rfl ?_
            refine wq_iload_n q223_88 rfl ?_
            refine wq_iconst q223_89 ?_
            refine cV (As := [_, _]) q223_90 m_211 rfl rfl rfl ⟨by decide, rfl⟩ rfl (c_toldH (w := 1) (by omega) (by omega) ?_)
            rw [y1]
            refine rI q223_93 rfl ?_
            exact h1
          | 2, ht, c39 =>
            cases ht
            obtain rfl : m = 2 := by omega
            refine wq_aload_n q223_94 rfl ?_
            refine wq_iload_n q223_95 rfl ?_
            refine wq_iconst q223_96 ?_
            refine cV (As := [_, _]) q223_97 m_211 rfl rfl rfl ⟨by decide, rfl⟩ rfl (c_toldH (w := 2) (by omega) (by omega) ?_)
            rw [y2]
            refine rI q223_100 rfl ?_
            exact h1
          | 3, ht, c39 =>
            cases ht
            obtain rfl : m = 3 := by omega
            have h1 : Q (some (.int (lvO hi f j))) (HP (up2 hi 58 0 0) hl f dr t) := h1
            unfold lvO at h1
            refine wq_aload_n q223_101 rfl ?_
            refine wq_iload_n q223_102 rfl ?_
            refine wq_iconst q223_103 ?_
            refine cV (As := [_, _]) q223_104 m_211 rfl rfl rfl ⟨by decide, rfl⟩ rfl (c_toldH (w := 3) (by omega) (by omega) ?_)
            rw [y3]
            refine wq_aload_n q223_107 rfl ?_
            refine wq_getI q223_108 rfl rfl ?_
            rw [e27]
            refine wq_icmp_ge q223_111 (fun c111 => ?_) (fun c111 => ?_)
            · rw [if_neg (Int32.not_lt.mpr c111)] at h1
              refine wq_iconst q223_123 ?_
              refine rI q223_124 rfl ?_
              exact h1
            · rw [if_pos (Int32.not_le.mp c111)] at h1
              refine wq_aload_n q223_114 rfl ?_
              refine wq_iload_n q223_115 rfl ?_
              refine wq_iconst q223_116 ?_
              refine cV (As := [_, _]) q223_117 m_211 rfl rfl rfl ⟨by decide, rfl⟩ rfl (c_toldH (w := 3) (by omega) (by omega) ?_)
              rw [y3]
              refine wq_goto q223_120 ?_
              refine rI q223_124 rfl ?_
              exact h1
          | 4, ht, c39 =>
            cases ht
            obtain rfl : m = 4 := by omega
            refine wq_aload_n q223_125 rfl ?_
            refine wq_getR q223_126 rfl rfl rfl ?_
            refine wq_iconst q223_129 ?_
            refine wq_iload_n q223_130 rfl ?_
            refine wq_imul q223_131 ?_
            refine wq_iconst q223_132 ?_
            refine wq_iadd q223_133 ?_
            refine aI q223_134 rfl (ix1 j) (by show 4 * j + 1 < 214; omega) (by first | decide | omega) ?_
            rw [x1]
            refine rI q223_135 rfl ?_
            exact h1
          | 5, ht, c39 =>
            cases ht
            obtain rfl : m = 5 := by omega
            refine wq_aload_n q223_136 rfl ?_
            refine wq_getR q223_137 rfl rfl rfl ?_
            refine wq_iconst q223_140 ?_
            refine wq_iload_n q223_141 rfl ?_
            refine wq_imul q223_142 ?_
            refine wq_iconst q223_143 ?_
            refine wq_iadd q223_144 ?_
            refine aI q223_145 rfl (ix2 j) (by show 4 * j + 2 < 214; omega) (by first | decide | omega) ?_
            rw [x2]
            refine rI q223_146 rfl ?_
            exact h1
          | i + 6, ht, _ => simp at ht
      · rw [et] at c33
        exact absurd (by decide) c33
/-- where there is no fort -/
theorem c_rprisoner0 {p w : Int32} (h26 : hi 58 26 = 0) (h0 : Q (some (.int 0)) (HP (up2 hi 58 0 1) hl f dr t)) : Ct G (0, 0) (d + 1) 223 [.ref 58, .int p, .int w] (HP hi hl f dr t) Q := by
  refine Ct_of (ls := [_, _, _]) m_223.1.2.2.1 (Nat.le_of_ble_eq_true rfl) rfl ?_
  refine wq_aload_n q223_0 rfl ?_
  refine wq_aload_n q223_1 rfl ?_
  refine wq_iload_n q223_2 rfl ?_
  refine cV (As := [_]) q223_3 m_209 rfl rfl rfl ⟨by decide, rfl⟩ rfl (c_risPrisoner ?_)
  refine wq_if_eq q223_6 (fun c6 => ?_) (fun c6 => ?_)
  · have et : hI (HP (up2 hi 58 0 1) hl f dr t) 58 0 = 1 := rfl
    refine wq_iconst q223_25 ?_
    refine wq_putI q223_26 rfl rfl rfl rfl ?_
    rw [hpS]
    refine wq_aload_n q223_29 rfl ?_
    refine wq_getI q223_30 rfl rfl ?_
    refine wq_if_le q223_33 (fun c33 => ?_) (fun c33 => ?_)
    · rw [et] at c33
      exact absurd c33 (by decide)
    · refine wq_iconst q223_36 ?_
      refine rI q223_37 rfl ?_
      exact h0
  · exact q00 c6 h26
theorem c_rcell {x w : Int32} (hF : RF hi f lw sz n ev wi) (hw : RW n row (hi 71)) (h0 : ¬ (inB x (nI n) = true ∧ 0 ≤ w ∧ w ≤ 1) → Q (some (.int (-1))) (HP (up2 hi 58 0 0) hl f dr t)) (h1 : ∀ j, j < n → x = nI j → 0 ≤ w → w ≤ 1 → Q (some (.int (if w = 0 then hi (f + 2) (j * 5) else row j))) (HP (up2 hi 58 0 0) hl f dr t)) : Ct G (0, 0) (d + 1) 224 [.ref 58, .int x, .int w] (HP hi hl f dr t) Q := by
  have hn := hF.2.1.1
  have e26 : up2 hi 58 0 0 58 26 = nI n := hF.2.2.1.1
  refine Ct_of (ls := [_, _, _]) m_224.1.2.2.1 (Nat.le_of_ble_eq_true rfl) rfl ?_
  refine wq_aload_n q224_0 rfl ?_
  refine wq_iconst q224_1 ?_
  refine wq_putI q224_2 rfl rfl rfl rfl ?_
  rw [hpS]
  refine wq_aload_n q224_5 rfl ?_
  refine wq_iload_n q224_6 rfl ?_
  refine cV (As := [_]) q224_7 m_209 rfl rfl rfl ⟨by decide, rfl⟩ rfl (c_risPrisoner ?_)
  refine wq_if_eq q224_10 (fun c10 => ?_) (fun c10 => ?_)
  · have c := i01 c10
    rw [e26] at c
    refine wq_iconst q224_23 ?_
    refine rI q224_24 rfl ?_
    exact h0 (fun z => by rw [z.1] at c; cases c)
  · have c := i10 c10
    rw [e26] at c
    obtain ⟨j, hj, rfl⟩ := inB_N (m := n) (by omega) c
    have y0 : up2 hi 58 0 0 65 (j * 5 + 0) = hi (f + 2) (j * 5) := hF.2.2.1.2.2.2.1 _ (by omega)
    refine wq_iload_n q224_13 rfl ?_
    refine wq_i2l q224_14 ?_
    refine wq_lconst q224_15 ?_
    refine wq_lconst q224_16 ?_
    refine cS' (As := [_, _, _]) q224_17 m_170 rfl rfl rfl (c_isIn ?_)
    refine wq_if_ne q224_20 (fun c20 => ?_) (fun c20 => ?_)
    · have cw := iiB_01.mp (i10 c20)
      have h1 := h1 j hj rfl cw.1 cw.2
      refine wq_iload_n q224_25 rfl ?_
      refine wq_if_ne q224_26 (fun c26 => ?_) (fun c26 => ?_)
      · rw [if_neg c26] at h1
        refine wq_aload_n q224_38 rfl ?_
        refine wq_aload_n q224_39 rfl ?_
        refine wq_getR q224_40 rfl rfl rfl ?_
        refine wq_iload_n q224_43 rfl ?_
        refine cV (As := [_, _]) q224_44 m_212 rfl rfl rfl ⟨by decide, rfl⟩ rfl (c_inCell (Or.inl rfl) hn hF.2.2.1.1 hw hj ?_)
        refine rI q224_47 rfl ?_
        exact h1
      · rw [if_pos c26] at h1
        refine wq_aload_n q224_29 rfl ?_
        refine wq_iload_n q224_30 rfl ?_
        refine wq_iconst q224_31 ?_
        refine cV (As := [_, _]) q224_32 m_211 rfl rfl rfl ⟨by decide, rfl⟩ rfl (c_toldH (w := 0) (by omega) (by omega) ?_)
        rw [y0]
        refine wq_goto q224_35 ?_
        refine rI q224_47 rfl ?_
        exact h1
    · have cw := i01 c20
      refine wq_iconst q224_23 ?_
      refine rI q224_24 rfl ?_
      exact h0 (fun z => by rw [iiB_01.mpr z.2] at cw; cases cw)
theorem c_revent {x w : Int32} (hF : RF hi f lw sz n ev wi) (hw : RW n row (hi 71)) (h0 : ¬ (inB x (nI ev) = true ∧ 0 ≤ w ∧ w ≤ 2) → Q (some (.int (-1))) (HP (up2 hi 58 0 0) hl f dr t))
    (h1 : ∀ j, j < ev → x = nI j → (w = 0 → Q (some (.int (hi (f + 3) (j * 2)))) (HP (up2 hi 58 0 0) hl f dr t)) ∧ (w = 1 → Q (some (.int (hi (f + 3) (j * 2 + 1)))) (HP (up2 hi 58 0 0) hl f dr t)) ∧ (w = 2 → Q (some (.int (if seB row j = true then 1 else 0))) (HP (up2 hi 58 0 0) hl f dr t))) : Ct G (0, 0) (d + 1) 225 [.ref 58, .int x, .int w] (HP hi hl f dr t) Q := by
  have hev := hF.2.1.2.2.1
  have e27 : up2 hi 58 0 0 58 27 = nI ev := hF.2.2.1.2.1
  refine Ct_of (ls := [_, _, _]) m_225.1.2.2.1 (Nat.le_of_ble_eq_true rfl) rfl ?_
  refine wq_aload_n q225_0 rfl ?_
  refine wq_iconst q225_1 ?_
  refine wq_putI q225_2 rfl rfl rfl rfl ?_
  rw [hpS]
  refine wq_aload_n q225_5 rfl ?_
  refine wq_iload_n q225_6 rfl ?_
  refine cV (As := [_]) q225_7 m_210 rfl rfl rfl ⟨by decide, rfl⟩ rfl (c_risEvent ?_)
  refine wq_if_eq q225_10 (fun c10 => ?_) (fun c10 => ?_)
  · have c := i01 c10
    rw [e27] at c
    refine wq_iconst q225_25 ?_
    refine rI q225_26 rfl ?_
    exact h0 (fun z => by rw [z.1] at c; cases c)
  · have c := i10 c10
    rw [e27] at c
    obtain ⟨j, hj, rfl⟩ := inB_N (m := ev) (by omega) c
    have h1 := h1 j hj rfl
    have y0 : hI (HP (up2 hi 58 0 0) hl f dr t) 67 (j * 2) = hi (f + 3) (j * 2) := hF.2.2.1.2.2.2.2 _ (by omega)
    have y1 : hI (HP (up2 hi 58 0 0) hl f dr t) 67 (j * 2 + 1) = hi (f + 3) (j * 2 + 1) := hF.2.2.1.2.2.2.2 _ (by omega)
    have y2 : hI (HP (up2 hi 58 0 0) hl f dr t) 71 28 = row 28 := hw.2.2.2.2.1
    refine wq_iload_n q225_13 rfl ?_
    refine wq_i2l q225_14 ?_
    refine wq_lconst q225_15 ?_
    refine wq_ldc2_w q225_16 ?_
    refine cS' (As := [_, _, _]) q225_19 m_170 rfl rfl rfl (c_isIn ?_)
    refine wq_if_ne q225_22 (fun c22 => ?_) (fun c22 => ?_)
    · have cw := i10 c22
      rw [iiB_3] at cw
      obtain ⟨m, hm, rfl⟩ := inB_N (m := 3) (by omega) cw
      refine wq_iload_n q225_27 rfl ?_
      refine wq_iconst q225_28 ?_
      refine wq_icmp_ne q225_29 (fun c29 => ?_) (fun c29 => ?_)
      · have hm2 : m = 0 ∨ m = 1 := by
          rw [show (2 : Int32) = nI 2 from rfl, nI_eq (by omega) (by omega)] at c29
          omega
        rcases hm2 with rfl | rfl
        · refine wq_aload_n q225_46 rfl ?_
          refine wq_getR q225_47 rfl rfl rfl ?_
          refine wq_iconst q225_50 ?_
          refine wq_iload_n q225_51 rfl ?_
          refine wq_imul q225_52 ?_
          refine wq_iload_n q225_53 rfl ?_
          refine wq_iadd q225_54 ?_
          refine aI q225_55 rfl ((by rw [iv0, show nI (j * 2) + nI 0 = nI (j * 2) by rw [nI_add, Nat.add_zero]])) (by show j * 2 < 12; omega) (by first | decide | omega) ?_
          rw [y0]
          refine rI q225_56 rfl ?_
          exact h1.1 rfl
        · refine wq_aload_n q225_46 rfl ?_
          refine wq_getR q225_47 rfl rfl rfl ?_
          refine wq_iconst q225_50 ?_
          refine wq_iload_n q225_51 rfl ?_
          refine wq_imul q225_52 ?_
          refine wq_iload_n q225_53 rfl ?_
          refine wq_iadd q225_54 ?_
          refine aI q225_55 rfl ((by rw [iv0, nI_add])) (by show j * 2 + 1 < 12; omega) (by first | decide | omega) ?_
          rw [y1]
          refine rI q225_56 rfl ?_
          exact h1.2.1 rfl
      · refine wq_aload_n q225_32 rfl ?_
        refine wq_getR q225_33 rfl rfl rfl ?_
        refine wq_bipush q225_36 ?_
        refine aI q225_38 rfl ((show (28 : Int32) = nI 28 from rfl)) (by decide) (by first | decide | omega) ?_
        rw [y2]
        refine wq_iload_n q225_39 rfl ?_
        refine wq_ishr q225_40 ?_
        refine wq_iconst q225_41 ?_
        refine wq_iand q225_42 ?_
        rw [bit01 (by omega)]
        refine wq_goto q225_43 ?_
        refine rI q225_56 rfl ?_
        exact h1.2.2 c29
    · have cw := i01 c22
      refine wq_iconst q225_25 ?_
      refine rI q225_26 rfl ?_
      exact h0 (fun z => by rw [iiB_02.mpr z.2] at cw; cases cw)
theorem c_rlaw {x : Int32} {lc : Nat} (h7 : hi 58 7 = nI lc) (hlc : lc ≤ 4) (hQ : Q (some (.int (if -1 ≤ x ∧ x < nI lc then 1 else 0))) (HP (if -1 ≤ x ∧ x < nI lc then up2 (up2 hi 58 0 0) 58 34 x else up2 hi 58 0 0) hl f dr t)) : Ct G (0, 0) (d + 1) 226 [.ref 58, .int x] (HP hi hl f dr t) Q := by
  have e7 : hI (HP (up2 hi 58 0 0) hl f dr t) 58 7 = nI lc := h7
  have hx : ¬ x = -1 → (inB x (nI lc) = true ↔ (-1 ≤ x ∧ x < nI lc)) := fun hne => by
    unfold inB
    simp only [Bool.and_eq_true, decide_eq_true_eq]
    rw [Int32.le_iff_toInt_le, Int32.le_iff_toInt_le]
    have : ¬ x.toInt = (-1 : Int32).toInt := fun z => hne (Int32.toInt_inj.mp z)
    rw [show (-1 : Int32).toInt = -1 from rfl] at this ⊢
    rw [show (0 : Int32).toInt = 0 from rfl]
    constructor
    · rintro ⟨h1, h2⟩; exact ⟨by omega, h2⟩
    · rintro ⟨h1, h2⟩; exact ⟨by omega, h2⟩
  refine Ct_of (ls := [_, _]) m_226.1.2.2.1 (Nat.le_of_ble_eq_true rfl) rfl ?_
  refine wq_aload_n q226_0 rfl ?_
  refine wq_iconst q226_1 ?_
  refine wq_putI q226_2 rfl rfl rfl rfl ?_
  rw [hpS]
  refine wq_iload_n q226_5 rfl ?_
  refine wq_iconst q226_6 ?_
  refine wq_icmp_eq q226_7 (fun c7 => ?_) (fun c7 => ?_)
  · have hyes : -1 ≤ x ∧ x < nI lc := by
      rw [c7]
      refine ⟨by decide, ?_⟩
      rw [Int32.lt_iff_toInt_lt, nI_toInt (by omega), show (-1 : Int32).toInt = -1 from rfl]
      omega
    rw [if_pos hyes, if_pos hyes] at hQ
    refine wq_aload_n q226_28 rfl ?_
    refine wq_iload_n q226_29 rfl ?_
    refine wq_putI q226_30 rfl rfl rfl rfl ?_
    refine wq_iconst q226_33 ?_
    refine rI q226_34 rfl ?_
    exact hQ
  · refine wq_iload_n q226_10 rfl ?_
    refine wq_i2l q226_11 ?_
    refine wq_lconst q226_12 ?_
    refine wq_aload_n q226_13 rfl ?_
    refine wq_getI q226_14 rfl rfl ?_
    refine wq_iconst q226_17 ?_
    refine wq_isub q226_18 ?_
    rw [e7]
    refine wq_i2l q226_19 ?_
    refine cS' (As := [_, _, _]) q226_20 m_170 rfl rfl rfl (c_isIn ?_)
    refine wq_if_ne q226_23 (fun c23 => ?_) (fun c23 => ?_)
    · have c := i10 c23
      rw [iiB_lg (by omega)] at c
      have hyes := (hx c7).mp c
      rw [if_pos hyes, if_pos hyes] at hQ
      refine wq_aload_n q226_28 rfl ?_
      refine wq_iload_n q226_29 rfl ?_
      refine wq_putI q226_30 rfl rfl rfl rfl ?_
      refine wq_iconst q226_33 ?_
      refine rI q226_34 rfl ?_
      exact hQ
    · have c := i01 c23
      rw [iiB_lg (by omega)] at c
      have hno : ¬ (-1 ≤ x ∧ x < nI lc) := fun z => by rw [(hx c7).mpr z] at c; cases c
      rw [if_neg hno, if_neg hno] at hQ
      refine wq_iconst q226_26 ?_
      refine rI q226_27 rfl ?_
      exact hQ
theorem c_rguards {x : Int32} (hQ : Q (some (.int (if 0 ≤ x ∧ x ≤ 9 ∧ ¬ x = hi 58 35 then 1 else 0))) (HP (if 0 ≤ x ∧ x ≤ 9 ∧ ¬ x = hi 58 35 then up2 (up2 hi 58 0 0) 58 35 x else up2 hi 58 0 0) hl f dr t)) : Ct G (0, 0) (d + 1) 227 [.ref 58, .int x] (HP hi hl f dr t) Q := by
  have e35 : hI (HP (up2 hi 58 0 0) hl f dr t) 58 35 = hi 58 35 := rfl
  have h9 : iiB x.toInt64 0 9 = true ↔ 0 ≤ x ∧ x ≤ 9 := iiB_in 0 9 rfl rfl
  refine Ct_of (ls := [_, _]) m_227.1.2.2.1 (Nat.le_of_ble_eq_true rfl) rfl ?_
  refine wq_aload_n q227_0 rfl ?_
  refine wq_iconst q227_1 ?_
  refine wq_putI q227_2 rfl rfl rfl rfl ?_
  rw [hpS]
  refine wq_iload_n q227_5 rfl ?_
  refine wq_i2l q227_6 ?_
  refine wq_lconst q227_7 ?_
  refine wq_ldc2_w q227_8 ?_
  refine cS' (As := [_, _, _]) q227_11 m_170 rfl rfl rfl (c_isIn ?_)
  refine wq_if_eq q227_14 (fun c14 => ?_) (fun c14 => ?_)
  · have c := i01 c14
    have hno : ¬ (0 ≤ x ∧ x ≤ 9 ∧ ¬ x = hi 58 35) := fun z => by rw [h9.mpr ⟨z.1, z.2.1⟩] at c; cases c
    rw [if_neg hno, if_neg hno] at hQ
    refine wq_iconst q227_25 ?_
    refine rI q227_26 rfl ?_
    exact hQ
  · have c := h9.mp (i10 c14)
    refine wq_iload_n q227_17 rfl ?_
    refine wq_aload_n q227_18 rfl ?_
    refine wq_getI q227_19 rfl rfl ?_
    refine wq_icmp_ne q227_22 (fun c22 => ?_) (fun c22 => ?_)
    · rw [e35] at c22
      rw [if_pos ⟨c.1, c.2, c22⟩, if_pos ⟨c.1, c.2, c22⟩] at hQ
      refine wq_aload_n q227_27 rfl ?_
      refine wq_iload_n q227_28 rfl ?_
      refine wq_putI q227_29 rfl rfl rfl rfl ?_
      refine wq_iconst q227_32 ?_
      refine rI q227_33 rfl ?_
      exact hQ
    · rw [e35] at c22
      rw [if_neg (fun z => z.2.2 c22), if_neg (fun z => z.2.2 c22)] at hQ
      refine wq_iconst q227_25 ?_
      refine rI q227_26 rfl ?_
      exact hQ
theorem c_rlog {x w : Int32} (hlg : lg ≤ 60) (h33 : hi 71 33 = nI lg) (h0 : ¬ (inB x (nI lg) = true ∧ inB w 3 = true) → Q (some (.int (-1))) (HP (up2 hi 58 0 0) hl f dr t)) (h1 : ∀ j k, j < lg → x = nI j → k < 3 → w = nI k → Q (some (.int (hi 71 (34 + 3 * (lg - 1 - j) + k)))) (HP (up2 hi 58 0 0) hl f dr t)) : Ct G (0, 0) (d + 1) 247 [.ref 58, .int x, .int w] (HP hi hl f dr t) Q := by
  have e33 : hI (HP (up2 hi 58 0 0) hl f dr t) 71 33 = nI lg := h33
  refine Ct_of (ls := [_, _, _]) m_247.1.2.2.1 (Nat.le_of_ble_eq_true rfl) rfl ?_
  refine wq_aload_n q247_0 rfl ?_
  refine wq_iconst q247_1 ?_
  refine wq_putI q247_2 rfl rfl rfl rfl ?_
  rw [hpS]
  refine wq_iload_n q247_5 rfl ?_
  refine wq_i2l q247_6 ?_
  refine wq_lconst q247_7 ?_
  refine wq_aload_n q247_8 rfl ?_
  refine wq_getR q247_9 rfl rfl rfl ?_
  refine wq_bipush q247_12 ?_
  refine aI q247_14 rfl ((show (33 : Int32) = nI 33 from rfl)) (by decide) (by first | decide | omega) ?_
  rw [e33]
  refine wq_iconst q247_15 ?_
  refine wq_isub q247_16 ?_
  refine wq_i2l q247_17 ?_
  refine cS' (As := [_, _, _]) q247_18 m_170 rfl rfl rfl (c_isIn ?_)
  refine wq_if_eq q247_21 (fun c21 => ?_) (fun c21 => ?_)
  · have c := i01 c21
    rw [iiB_lg hlg] at c
    refine wq_iconst q247_62 ?_
    refine rI q247_63 rfl ?_
    exact h0 (fun z => by rw [z.1] at c; cases c)
  · have c := i10 c21
    rw [iiB_lg hlg] at c
    obtain ⟨j, hj, rfl⟩ := inB_N (m := lg) (by omega) c
    refine wq_iload_n q247_24 rfl ?_
    refine wq_i2l q247_25 ?_
    refine wq_lconst q247_26 ?_
    refine wq_ldc2_w q247_27 ?_
    refine cS' (As := [_, _, _]) q247_30 m_170 rfl rfl rfl (c_isIn ?_)
    refine wq_if_eq q247_33 (fun c33 => ?_) (fun c33 => ?_)
    · have cw := i01 c33
      rw [iiB_3] at cw
      refine wq_iconst q247_62 ?_
      refine rI q247_63 rfl ?_
      exact h0 (fun z => by rw [z.2] at cw; cases cw)
    · have cw := i10 c33
      rw [iiB_3] at cw
      obtain ⟨k, hk, rfl⟩ := inB_N (m := 3) (by omega) cw
      refine wq_aload_n q247_36 rfl ?_
      refine wq_getR q247_37 rfl rfl rfl ?_
      refine wq_bipush q247_40 ?_
      refine wq_iconst q247_42 ?_
      refine wq_aload_n q247_43 rfl ?_
      refine wq_getR q247_44 rfl rfl rfl ?_
      refine wq_bipush q247_47 ?_
      refine aI q247_49 rfl ((show (33 : Int32) = nI 33 from rfl)) (by decide) (by first | decide | omega) ?_
      rw [e33]
      refine wq_iconst q247_50 ?_
      refine wq_isub q247_51 ?_
      refine wq_iload_n q247_52 rfl ?_
      refine wq_isub q247_53 ?_
      refine wq_imul q247_54 ?_
      refine wq_iadd q247_55 ?_
      refine wq_iload_n q247_56 rfl ?_
      refine wq_iadd q247_57 ?_
      refine aI q247_58 rfl ((by rw [nI_m1 (by omega), pk_sub (by omega), show (3 : Int32) = nI 3 from rfl, pk_mul, show (34 : Int32) = nI 34 from rfl, nI_add, nI_add])) (by show 34 + 3 * (lg - 1 - j) + k < 214; omega) (by first | decide | omega) ?_
      refine wq_goto q247_59 ?_
      refine rI q247_63 rfl ?_
      exact h1 j k hj rfl hk rfl
theorem c_rstep2 {x i w : Int32} {pc' : Nat} (hpc : hi 58 30 = nI pc') (hpc4 : pc' ≤ 4) (hpl : ∀ k, k < pc' → ∃ st P, PlR hi k st P)
    (h0 : ¬ (inB x (nI pc') = true ∧ (∀ k, x = nI k → inB i (hi 70 k) = true) ∧ inB w 3 = true) → Q (some (.int (-1000000))) (HP (up2 hi 58 0 0) hl f dr t))
    (h1 : ∀ k j v, k < pc' → x = nI k → i = nI j → w = nI v → v < 3 → inB i (hi 70 k) = true → Q (some (.int (hi 69 (48 * k + (j * 3 + v))))) (HP (up2 hi 58 0 0) hl f dr t)) : Ct G (0, 0) (d + 1) 249 [.ref 58, .int x, .int i, .int w] (HP hi hl f dr t) Q := by
  have e30 : up2 hi 58 0 0 58 30 = nI pc' := hpc
  refine Ct_of (ls := [_, _, _, _]) m_249.1.2.2.1 (Nat.le_of_ble_eq_true rfl) rfl ?_
  refine wq_aload_n q249_0 rfl ?_
  refine wq_iconst q249_1 ?_
  refine wq_putI q249_2 rfl rfl rfl rfl ?_
  rw [hpS]
  refine wq_aload_n q249_5 rfl ?_
  refine wq_iload_n q249_6 rfl ?_
  refine cV (As := [_]) q249_7 m_248 rfl rfl rfl ⟨by decide, rfl⟩ rfl (c_risPlan ?_)
  refine wq_if_eq q249_10 (fun c10 => ?_) (fun c10 => ?_)
  · have c := i01 c10
    rw [e30] at c
    refine wq_ldc_w q249_61 ?_
    refine rI q249_64 rfl ?_
    exact h0 (fun z => by rw [z.1] at c; cases c)
  · have c := i10 c10
    rw [e30] at c
    obtain ⟨k, hk, rfl⟩ := inB_N (m := pc') (by omega) c
    obtain ⟨st, P, hk4, hst, e70, hP, -⟩ := hpl k hk
    have e70' : hI (HP (up2 hi 58 0 0) hl f dr t) 70 k = nI st := e70
    refine wq_iload_n q249_13 rfl ?_
    refine wq_i2l q249_14 ?_
    refine wq_lconst q249_15 ?_
    refine wq_aload_n q249_16 rfl ?_
    refine wq_getR q249_17 rfl rfl rfl ?_
    refine wq_iload_n q249_20 rfl ?_
    refine aI q249_21 rfl (rfl) (by show k < 5; omega) (by first | decide | omega) ?_
    rw [e70']
    refine wq_iconst q249_22 ?_
    refine wq_isub q249_23 ?_
    refine wq_i2l q249_24 ?_
    refine cS' (As := [_, _, _]) q249_25 m_170 rfl rfl rfl (c_isIn ?_)
    refine wq_if_eq q249_28 (fun c28 => ?_) (fun c28 => ?_)
    · have ci := i01 c28
      rw [iiB_lg (by omega)] at ci
      refine wq_ldc_w q249_61 ?_
      refine rI q249_64 rfl ?_
      exact h0 (fun z => by have := z.2.1 k rfl; rw [e70, ci] at this; cases this)
    · have ci := i10 c28
      rw [iiB_lg (by omega)] at ci
      refine wq_iload_n q249_31 rfl ?_
      refine wq_i2l q249_32 ?_
      refine wq_lconst q249_33 ?_
      refine wq_ldc2_w q249_34 ?_
      refine cS' (As := [_, _, _]) q249_37 m_170 rfl rfl rfl (c_isIn ?_)
      refine wq_if_eq q249_40 (fun c40 => ?_) (fun c40 => ?_)
      · have cw := i01 c40
        rw [iiB_3] at cw
        refine wq_ldc_w q249_61 ?_
        refine rI q249_64 rfl ?_
        exact h0 (fun z => by rw [z.2.2] at cw; cases cw)
      · have cw := i10 c40
        rw [iiB_3] at cw
        obtain ⟨v, hv, rfl⟩ := inB_N (m := 3) (by omega) cw
        have ci' := ci
        obtain ⟨j, hj, rfl⟩ := inB_N (m := st) (by omega) ci
        refine wq_aload_n q249_43 rfl ?_
        refine wq_getR q249_44 rfl rfl rfl ?_
        refine wq_iconst q249_47 ?_
        refine wq_bipush q249_48 ?_
        refine wq_iload_n q249_50 rfl ?_
        refine wq_imul q249_51 ?_
        refine wq_iload_n q249_52 rfl ?_
        refine wq_iadd q249_53 ?_
        refine wq_imul q249_54 ?_
        refine wq_iload_n q249_55 rfl ?_
        refine wq_iadd q249_56 ?_
        refine aI q249_57 rfl ((by rw [q_ix, nI_add, Nat.add_assoc])) (by show 48 * k + (j * 3 + v) < 240; omega) (by first | decide | omega) ?_
        refine wq_goto q249_58 ?_
        refine rI q249_64 rfl ?_
        exact h1 k j v hk rfl rfl rfl hv (by rw [e70]; exact ci')
theorem c_rfar {x y : Int32} (hF : RF hi f lw sz n ev wi) (hw : RW n row (hi 71))
    (h0 : ¬ (inB x (nI ev) = true ∧ inB y (nI n) = true) → Q (some (.int (-1))) (HP (up2 hi 58 0 0) hl f dr t)) (h1 : ∀ v c hi' t', v < ev → x = nI v → c < n → y = nI c → RS hi hi' → Q (some (.int (spV hi f lw sz v row (sOf row) wi c))) (HP hi' hl f dr t')) : Ct G (0, 0) (d + 35) 254 [.ref 58, .int x, .int y] (HP hi hl f dr t) Q := by
  have hn := hF.2.1.1
  have hev := hF.2.1.2.2.1
  have hwi := hF.2.1.2.2.2.1
  have hr0 : RS hi (up2 hi 58 0 0) := RS.upK (by decide) _
  have hF0 := hr0.mv hF
  have e27 : up2 hi 58 0 0 58 27 = nI ev := hF.2.2.1.2.1
  have e26 : up2 hi 58 0 0 58 26 = nI n := hF.2.2.1.1
  have e63 : hI (HP (up2 hi 58 0 0) hl f dr t) 63 0 = nI wi := (hF0.2.2.1.2.2.1 0 (by decide)).trans hF0.2.1.2.2.2.2.2.2
  refine Ct_of (ls := [_, _, _]) m_254.1.2.2.1 (Nat.le_of_ble_eq_true rfl) rfl ?_
  refine wq_aload_n q254_0 rfl ?_
  refine wq_iconst q254_1 ?_
  refine wq_putI q254_2 rfl rfl rfl rfl ?_
  rw [hpS]
  refine wq_aload_n q254_5 rfl ?_
  refine wq_iload_n q254_6 rfl ?_
  refine cV (As := [_]) q254_7 m_210 rfl rfl rfl ⟨by decide, rfl⟩ rfl (c_risEvent ?_)
  refine wq_if_eq q254_10 (fun c10 => ?_) (fun c10 => ?_)
  · have c := i01 c10
    rw [e27] at c
    refine wq_iconst q254_21 ?_
    refine rI q254_22 rfl ?_
    exact h0 (fun z => by rw [z.1] at c; cases c)
  · have c := i10 c10
    rw [e27] at c
    obtain ⟨v, hv, rfl⟩ := inB_N (m := ev) (by omega) c
    refine wq_aload_n q254_13 rfl ?_
    refine wq_iload_n q254_14 rfl ?_
    refine cV (As := [_]) q254_15 m_209 rfl rfl rfl ⟨by decide, rfl⟩ rfl (c_risPrisoner ?_)
    refine wq_if_ne q254_18 (fun c18 => ?_) (fun c18 => ?_)
    · have c2 := i10 c18
      rw [e26] at c2
      obtain ⟨p, hp, rfl⟩ := inB_N (m := n) (by omega) c2
      refine wq_aload_n q254_23 rfl ?_
      refine wq_aload_n q254_24 rfl ?_
      refine wq_getR q254_25 rfl rfl rfl ?_
      refine wq_aload_n q254_28 rfl ?_
      refine wq_getR q254_29 rfl rfl rfl ?_
      refine wq_iconst q254_32 ?_
      refine aI q254_33 rfl (rfl) (by decide) (by first | decide | omega) ?_
      rw [e63]
      refine wq_iload_n q254_34 rfl ?_
      refine cV (As := [_, _, _]) q254_35 m_215 rfl rfl rfl ⟨by decide, rfl⟩ rfl (c_rknocks (d := d) hF0 (Or.inl rfl) hw hv hwi (fun hi1 t1 hN hS => ?_))
      have hq := h1 v p hi1 t1 hv rfl hp rfl (hr0.tr hN.rs)
      have e73 : hI (HP hi1 hl f dr t1) 73 p = spV hi f lw sz v row (sOf row) wi p := by
        show hi1 73 p = _
        rw [hS p hp, spV_congr (hr0.fl hF).2.1 (hr0.fl hF).2.2.1 (hr0.fl hF).2.2.2.1 (fun a ha => ((hr0.fl hF).2.2.2.2 a ha).2)]
      refine wq_aload_n q254_38 rfl ?_
      refine wq_getR q254_39 rfl rfl rfl ?_
      refine wq_iload_n q254_42 rfl ?_
      refine aI q254_43 rfl (rfl) (by show p < 7; omega) (by first | decide | omega) ?_
      rw [e73]
      refine rI q254_44 rfl ?_
      exact hq
    · have c2 := i01 c18
      rw [e26] at c2
      refine wq_iconst q254_21 ?_
      refine rI q254_22 rfl ?_
      exact h0 (fun z => by rw [z.2] at c2; cases c2)
theorem c_rlisten {x : Int32} (hF : RF hi f lw sz n ev wi) (hw : RW n row (hi 71))
    (h0 : inB x (nI ev) = false → Q (some (.int (-1))) (HP (up2 hi 58 0 0) hl f dr t)) (h1 : ∀ v hi' t', v < ev → x = nI v → RS hi hi' → Q (some (.int (heV hi f lw sz n v row wi))) (HP hi' hl f dr t')) : Ct G (0, 0) (d + 36) 278 [.ref 58, .int x] (HP hi hl f dr t) Q := by
  have hev := hF.2.1.2.2.1
  have hwi := hF.2.1.2.2.2.1
  have hr0 : RS hi (up2 hi 58 0 0) := RS.upK (by decide) _
  have hF0 := hr0.mv hF
  have e27 : up2 hi 58 0 0 58 27 = nI ev := hF.2.2.1.2.1
  have e63 : hI (HP (up2 hi 58 0 0) hl f dr t) 63 0 = nI wi := (hF0.2.2.1.2.2.1 0 (by decide)).trans hF0.2.1.2.2.2.2.2.2
  refine Ct_of (ls := [_, _]) m_278.1.2.2.1 (Nat.le_of_ble_eq_true rfl) rfl ?_
  refine wq_aload_n q278_0 rfl ?_
  refine wq_iconst q278_1 ?_
  refine wq_putI q278_2 rfl rfl rfl rfl ?_
  rw [hpS]
  refine wq_aload_n q278_5 rfl ?_
  refine wq_iload_n q278_6 rfl ?_
  refine cV (As := [_]) q278_7 m_210 rfl rfl rfl ⟨by decide, rfl⟩ rfl (c_risEvent ?_)
  refine wq_if_eq q278_10 (fun c10 => ?_) (fun c10 => ?_)
  · have c := i01 c10
    rw [e27] at c
    refine wq_iconst q278_27 ?_
    refine rI q278_28 rfl ?_
    exact h0 c
  · have c := i10 c10
    rw [e27] at c
    obtain ⟨v, hv, rfl⟩ := inB_N (m := ev) (by omega) c
    refine wq_aload_n q278_13 rfl ?_
    refine wq_aload_n q278_14 rfl ?_
    refine wq_getR q278_15 rfl rfl rfl ?_
    refine wq_iconst q278_18 ?_
    refine aI q278_19 rfl (rfl) (by decide) (by first | decide | omega) ?_
    rw [e63]
    refine wq_iload_n q278_20 rfl ?_
    refine cV (As := [_, _]) q278_21 m_275 rfl rfl rfl ⟨by decide, rfl⟩ rfl (c_rhears (d := d) hF0 hw hv hwi (fun hi1 t1 hN => ?_))
    refine wq_goto q278_24 ?_
    refine rI q278_28 rfl ?_
    rw [heV_congr (hr0.fl hF)]
    exact h1 v hi1 t1 hv rfl (hr0.tr hN.rs)
theorem c_rtrust_loop {c : Nat} (hF : RF hi f lw sz n ev wi) (hw : RW n row (hi 71)) (hc : c < n) : ∀ (m i : Nat) (b : Int32), (i + m = max c wi ∨ (m = 0 ∧ max c wi ≤ i ∧ i ≤ 8)) → Q (some (.int (trR row m i b))) (HP hi hl f dr t) →
    wq G (0, 0) (d + 1) 274 30 [some (.ref 58), some (.int (nI c)), some (.int b), some (.int (nI i))] [] (0, 0) (HP hi hl f dr t) Q := by
  have hn := hF.2.1.1
  have hwi := hF.2.1.2.2.2.1
  have e63 : hI (HP hi hl f dr t) 63 0 = nI wi := (hF.2.2.1.2.2.1 0 (by decide)).trans hF.2.1.2.2.2.2.2.2
  intro m
  induction m with
  | zero =>
    intro i b hm hQ
    refine wq_iload_n q274_30 rfl ?_
    refine wq_iload_n q274_31 rfl ?_
    refine wq_aload_n q274_32 rfl ?_
    refine wq_getR q274_33 rfl rfl rfl ?_
    refine wq_iconst q274_36 ?_
    refine aI q274_37 rfl (rfl) (by decide) (by first | decide | omega) ?_
    rw [e63]
    refine wq_max q274_38 ⟨Nat.le.refl, Nat.le.refl, Nat.le_of_ble_eq_true rfl⟩ ?_
    rw [nI_max _ _ (by omega) (by omega)]
    refine wq_icmp_ge q274_41 (fun c41 => ?_) (fun c41 => ?_)
    · refine wq_iload_n q274_64 rfl ?_
      refine rI q274_65 rfl ?_
      exact hQ
    · rw [nI_leI (by omega) (by omega)] at c41
      omega
  | succ m ih =>
    intro i b hm hQ
    refine wq_iload_n q274_30 rfl ?_
    refine wq_iload_n q274_31 rfl ?_
    refine wq_aload_n q274_32 rfl ?_
    refine wq_getR q274_33 rfl rfl rfl ?_
    refine wq_iconst q274_36 ?_
    refine aI q274_37 rfl (rfl) (by decide) (by first | decide | omega) ?_
    rw [e63]
    refine wq_max q274_38 ⟨Nat.le.refl, Nat.le.refl, Nat.le_of_ble_eq_true rfl⟩ ?_
    rw [nI_max _ _ (by omega) (by omega)]
    refine wq_icmp_ge q274_41 (fun c41 => ?_) (fun c41 => ?_)
    · rw [nI_leI (by omega) (by omega)] at c41
      omega
    · refine wq_iload_n q274_44 rfl ?_
      refine wq_iconst q274_45 ?_
      refine wq_aload_n q274_46 rfl ?_
      refine wq_aload_n q274_47 rfl ?_
      refine wq_getR q274_48 rfl rfl rfl ?_
      refine wq_iload_n q274_51 rfl ?_
      refine cV (As := [_, _]) q274_52 m_212 rfl rfl rfl ⟨by decide, rfl⟩ rfl (c_inCell (Or.inl rfl) hn hF.2.2.1.1 hw (show i < n by omega) ?_)
      refine wq_ishl q274_55 ?_
      refine wq_ior q274_56 ?_
      refine wq_istore_n (ls' := [_, _, _, _]) q274_57 rfl ?_
      refine wq_iinc (ls' := [_, _, _, _]) q274_58 rfl rfl ?_
      refine wq_goto q274_61 ?_
      rw [nI_1]
      exact ih (i + 1) _ (by omega) hQ
theorem c_rtrust {x : Int32} (hF : RF hi f lw sz n ev wi) (hw : RW n row (hi 71)) (h0 : inB x (nI n) = false → Q (some (.int (-1))) (HP (up2 hi 58 0 0) hl f dr t))
    (h1 : ∀ c, c < n → x = nI c → Q (some (.int (trR row (max c wi - (min c wi + 1)) (min c wi + 1) 0))) (HP (up2 hi 58 0 0) hl f dr t)) : Ct G (0, 0) (d + 1) 274 [.ref 58, .int x] (HP hi hl f dr t) Q := by
  have hn := hF.2.1.1
  have hwi := hF.2.1.2.2.2.1
  have hr0 : RS hi (up2 hi 58 0 0) := RS.upK (by decide) _
  have hF0 := hr0.mv hF
  have e26 : up2 hi 58 0 0 58 26 = nI n := hF.2.2.1.1
  have e63 : hI (HP (up2 hi 58 0 0) hl f dr t) 63 0 = nI wi := (hF0.2.2.1.2.2.1 0 (by decide)).trans hF0.2.1.2.2.2.2.2.2
  refine Ct_of (ls := [_, _, _, _]) m_274.1.2.2.1 (Nat.le_of_ble_eq_true rfl) rfl ?_
  refine wq_aload_n q274_0 rfl ?_
  refine wq_iconst q274_1 ?_
  refine wq_putI q274_2 rfl rfl rfl rfl ?_
  rw [hpS]
  refine wq_aload_n q274_5 rfl ?_
  refine wq_iload_n q274_6 rfl ?_
  refine cV (As := [_]) q274_7 m_209 rfl rfl rfl ⟨by decide, rfl⟩ rfl (c_risPrisoner ?_)
  refine wq_if_ne q274_10 (fun c10 => ?_) (fun c10 => ?_)
  · have c := i10 c10
    rw [e26] at c
    obtain ⟨c', hc', rfl⟩ := inB_N (m := n) (by omega) c
    refine wq_iconst q274_15 ?_
    refine wq_istore_n (ls' := [_, _, _, _]) q274_16 rfl ?_
    refine wq_iload_n q274_17 rfl ?_
    refine wq_aload_n q274_18 rfl ?_
    refine wq_getR q274_19 rfl rfl rfl ?_
    refine wq_iconst q274_22 ?_
    refine aI q274_23 rfl (rfl) (by decide) (by first | decide | omega) ?_
    rw [e63]
    refine wq_min q274_24 ⟨Nat.le.refl, Nat.le.refl, Nat.le_of_ble_eq_true rfl⟩ ?_
    rw [nI_min _ _ (by omega) (by omega)]
    refine wq_iconst q274_27 ?_
    refine wq_iadd q274_28 ?_
    refine wq_istore_n (ls' := [_, _, _, _]) q274_29 rfl ?_
    rw [nI_1]
    exact c_rtrust_loop hF0 hw hc' _ _ _ (by omega) (h1 c' hc' rfl)
  · have c := i01 c10
    rw [e26] at c
    refine wq_iconst q274_13 ?_
    refine rI q274_14 rfl ?_
    exact h0 c
theorem c_rrich (hF : RF hi f lw sz n ev wi) (hw : RW n row (hi 71)) (hQ : Q (some (.int (nI (riR (fun i => row (7 + i)) (n - 1) 1 0)))) (HP (up2 hi 58 0 0) hl f dr t)) : Ct G (0, 0) (d + 1) 282 [.ref 58] (HP hi hl f dr t) Q := by
  have hn := hF.2.1.1
  have hn1 := hF.2.1.2.1
  have e26 : hI (HP (up2 hi 58 0 0) hl f dr t) 58 26 = nI n := hF.2.2.1.1
  refine Ct_of (ls := [_]) m_282.1.2.2.1 (Nat.le_of_ble_eq_true rfl) rfl ?_
  refine wq_aload_n q282_0 rfl ?_
  refine wq_iconst q282_1 ?_
  refine wq_putI q282_2 rfl rfl rfl rfl ?_
  rw [hpS]
  refine wq_aload_n q282_5 rfl ?_
  refine wq_getI q282_6 rfl rfl ?_
  refine wq_if_ne q282_9 (fun c9 => ?_) (fun c9 => ?_)
  · refine wq_aload_n q282_16 rfl ?_
    refine wq_aload_n q282_17 rfl ?_
    refine wq_getR q282_18 rfl rfl rfl ?_
    refine cV (As := [_]) q282_21 m_237 rfl rfl rfl ⟨by decide, rfl⟩ rfl (c_rrichest (Or.inl rfl) hn hn1 hF.2.2.1.1 hw ?_)
    refine rI q282_24 rfl ?_
    exact hQ
  · rw [e26] at c9
    exact absurd c9 (nI_ne0 (by omega) (by omega))
theorem quR_congr {b b' : Nat → Int32} {N : Nat} (h : ∀ j, j < N → b j = b' j) : ∀ (m p j : Nat), p + m ≤ N → j < N → quR b m p j = quR b' m p j := by
  intro m
  induction m with
  | zero => intro p j _ _; rfl
  | succ m ih =>
    intro p j hp hj
    rw [quR, quR, h j hj, h p (by omega)]
    exact ih (p + 1) _ (by omega) (by split <;> omega)
theorem c_rquiet_loop (hev : ev ≤ 6) (h27 : hi 58 27 = nI ev) : ∀ (m e j : Nat), (e + m = ev ∨ (m = 0 ∧ ev ≤ e ∧ e ≤ 6)) → j < 6 → Q (some (.int (nI (quR (fun e => hi 67 (e * 2)) m e j)))) (HP hi hl f dr t) →
    wq G (0, 0) (d + 1) 281 18 [some (.ref 58), some (.int (nI j)), some (.int (nI e))] [] (0, 0) (HP hi hl f dr t) Q := by
  have ec : hI (HP hi hl f dr t) 58 27 = nI ev := h27
  intro m
  induction m with
  | zero =>
    intro e j hm hj hQ
    refine wq_iload_n q281_18 rfl ?_
    refine wq_aload_n q281_19 rfl ?_
    refine wq_getI q281_20 rfl rfl ?_
    refine wq_icmp_ge q281_23 (fun c23 => ?_) (fun c23 => ?_)
    · refine wq_iload_n q281_57 rfl ?_
      refine rI q281_58 rfl ?_
      exact hQ
    · rw [ec, nI_leI (by omega) (by omega)] at c23
      omega
  | succ m ih =>
    intro e j hm hj hQ
    rw [quR] at hQ
    refine wq_iload_n q281_18 rfl ?_
    refine wq_aload_n q281_19 rfl ?_
    refine wq_getI q281_20 rfl rfl ?_
    refine wq_icmp_ge q281_23 (fun c23 => ?_) (fun c23 => ?_)
    · rw [ec, nI_leI (by omega) (by omega)] at c23
      omega
    · refine wq_aload_n q281_26 rfl ?_
      refine wq_getR q281_27 rfl rfl rfl ?_
      refine wq_iconst q281_30 ?_
      refine wq_iload_n q281_31 rfl ?_
      refine wq_imul q281_32 ?_
      refine aI q281_33 rfl (iv0 e) (by show e * 2 < 12; omega) (by first | decide | omega) ?_
      refine wq_aload_n q281_34 rfl ?_
      refine wq_getR q281_35 rfl rfl rfl ?_
      refine wq_iconst q281_38 ?_
      refine wq_iload_n q281_39 rfl ?_
      refine wq_imul q281_40 ?_
      refine aI q281_41 rfl (iv0 j) (by show j * 2 < 12; omega) (by first | decide | omega) ?_
      refine wq_icmp_ge q281_42 (fun c42 => ?_) (fun c42 => ?_)
      · rw [hIH] at c42
        rw [if_neg (Int32.not_lt.mpr c42)] at hQ
        refine wq_iload_n q281_49 rfl ?_
        refine wq_istore_n (ls' := [_, _, _]) q281_50 rfl ?_
        refine wq_iinc (ls' := [_, _, _]) q281_51 rfl rfl ?_
        refine wq_goto q281_54 ?_
        rw [nI_1]
        exact ih (e + 1) j (by omega) hj hQ
      · rw [hIH] at c42
        rw [if_pos (Int32.not_le.mp c42)] at hQ
        refine wq_iload_n q281_45 rfl ?_
        refine wq_goto q281_46 ?_
        refine wq_istore_n (ls' := [_, _, _]) q281_50 rfl ?_
        refine wq_iinc (ls' := [_, _, _]) q281_51 rfl rfl ?_
        refine wq_goto q281_54 ?_
        rw [nI_1]
        exact ih (e + 1) e (by omega) (by omega) hQ
theorem c_rquiet (hF : RF hi f lw sz n ev wi) (hev1 : 1 ≤ ev) (hQ : Q (some (.int (nI (quR (fun e => hi (f + 3) (e * 2)) (ev - 1) 1 0)))) (HP (up2 hi 58 0 0) hl f dr t)) : Ct G (0, 0) (d + 1) 281 [.ref 58] (HP hi hl f dr t) Q := by
  have hn := hF.2.1.1
  have hn1 := hF.2.1.2.1
  have hev := hF.2.1.2.2.1
  have e26 : hI (HP (up2 hi 58 0 0) hl f dr t) 58 26 = nI n := hF.2.2.1.1
  refine Ct_of (ls := [_, _, _]) m_281.1.2.2.1 (Nat.le_of_ble_eq_true rfl) rfl ?_
  refine wq_aload_n q281_0 rfl ?_
  refine wq_iconst q281_1 ?_
  refine wq_putI q281_2 rfl rfl rfl rfl ?_
  rw [hpS]
  refine wq_aload_n q281_5 rfl ?_
  refine wq_getI q281_6 rfl rfl ?_
  refine wq_if_ne q281_9 (fun c9 => ?_) (fun c9 => ?_)
  · refine wq_iconst q281_14 ?_
    refine wq_istore_n (ls' := [_, _, _]) q281_15 rfl ?_
    refine wq_iconst q281_16 ?_
    refine wq_istore_n (ls' := [_, _, _]) q281_17 rfl ?_
    refine c_rquiet_loop (hi := up2 hi 58 0 0) hev hF.2.2.1.2.1 (ev - 1) 1 0 (by omega) (by omega) ?_
    rw [quR_congr (b := fun e => up2 hi 58 0 0 67 (e * 2)) (b' := fun e => hi (f + 3) (e * 2)) (N := ev) (fun j hj => hF.2.2.1.2.2.2.2 _ (by omega)) _ _ _ (by omega) (by omega)]
    exact hQ
  · rw [e26] at c9
    exact absurd c9 (nI_ne0 (by omega) (by omega))
end REFASK
