/-! THE CLASS: where there is no fort -/
section NOFORT
variable {G : ph_G} {d f dr t : Nat} {hi : Nat → Nat → Int32} {hl : Nat → Nat → Int64} {Q : Option Value → ph_H → Prop}
theorem inB_0 {x : Int32} : inB x 0 = false := by
  rcases Int32.lt_or_le x 0 with h | h
  · exact inB_f1 h
  · exact inB_f2 h
theorem p00 {x : Int32} {P : Prop} (h : ¬ (if 0 < x then (1 : Int32) else 0) = 0) (hz : x = 0) : P := by
  subst hz
  exact absurd (p10 h) (by decide)
theorem q00 {x y : Int32} {P : Prop} (h : ¬ (if inB x y = true then (1 : Int32) else 0) = 0) (hz : y = 0) : P := by
  subst hz
  rw [inB_0] at h
  exact absurd rfl h
theorem c_acted0 {x y z : Int32} (hf : Fok f) (h3 : hi f 3 = 0) (hQ : Q (some (.int 0)) (HP hi hl f dr t)) : Ct G (0, 0) (d + 2) 120 [.ref 0, .int x, .int y, .int z] (HP hi hl f dr t) Q := by
  have hs : Sok 38 39 := Or.inl ⟨rfl, rfl⟩
  refine Ct_of (ls := [_, _, _, _]) m_120.1.2.2.1 (Nat.le_of_ble_eq_true rfl) rfl ?_
  refine wq_aload_n q120_0 rfl ?_
  refine wq_aload_n q120_1 rfl ?_
  refine wq_getR q120_2 rfl rfl rfl ?_
  refine wq_iload_n q120_5 rfl ?_
  refine wq_iload_n q120_6 rfl ?_
  refine wq_iload_n q120_7 rfl ?_
  refine cV (As := [_, _, _, _]) q120_8 m_121 rfl rfl rfl ⟨by decide, rfl⟩ rfl (c_canBe (n := 0) hf hs (by omega) h3 ?_)
  refine wq_if_ne q120_11 (fun c11 => ?_) (fun c11 => ?_)
  · have c := i10 c11
    simp [canB, h3] at c
  · refine wq_iconst q120_14 ?_
    refine rI q120_15 rfl ?_
    exact hQ
theorem c_see0 {x : Int32} (hf : Fok f) (h3 : hi f 3 = 0) (hQ : Q (some (.int (-1))) (HP hi hl f dr t)) : Ct G (0, 0) (d + 8) 109 [.ref 0, .int x] (HP hi hl f dr t) Q := by
  refine Ct_of (ls := [_, _]) m_109.1.2.2.1 (Nat.le_of_ble_eq_true rfl) rfl ?_
  refine wq_aload_n q109_0 rfl ?_
  refine wq_iconst q109_1 ?_
  refine wq_iload_n q109_2 rfl ?_
  refine wq_iconst q109_3 ?_
  refine cV (As := [_, _, _]) q109_4 m_120 rfl rfl rfl ⟨by decide, rfl⟩ rfl (c_acted0 hf h3 ?_)
  refine wq_if_eq q109_7 (fun c7 => ?_) (fun c7 => ?_)
  · refine wq_iconst q109_23 ?_
    refine rI q109_24 rfl ?_
    exact hQ
  · exact absurd rfl c7
theorem c_tell0 (hf : Fok f) (h3 : hi f 3 = 0) (hQ : Q (some (.int (-1))) (HP hi hl f dr t)) : Ct G (0, 0) (d + 8) 110 [.ref 0] (HP hi hl f dr t) Q := by
  refine Ct_of (ls := [_]) m_110.1.2.2.1 (Nat.le_of_ble_eq_true rfl) rfl ?_
  refine wq_aload_n q110_0 rfl ?_
  refine wq_iconst q110_1 ?_
  refine wq_iconst q110_2 ?_
  refine wq_iconst q110_3 ?_
  refine cV (As := [_, _, _]) q110_4 m_120 rfl rfl rfl ⟨by decide, rfl⟩ rfl (c_acted0 hf h3 ?_)
  refine wq_if_eq q110_7 (fun c7 => ?_) (fun c7 => ?_)
  · refine wq_iconst q110_23 ?_
    refine rI q110_24 rfl ?_
    exact hQ
  · exact absurd rfl c7
theorem c_move0 {x y : Int32} (hf : Fok f) (h3 : hi f 3 = 0) (hQ : Q (some (.int (-1))) (HP hi hl f dr t)) : Ct G (0, 0) (d + 8) 111 [.ref 0, .int x, .int y] (HP hi hl f dr t) Q := by
  refine Ct_of (ls := [_, _, _]) m_111.1.2.2.1 (Nat.le_of_ble_eq_true rfl) rfl ?_
  refine wq_aload_n q111_0 rfl ?_
  refine wq_iconst q111_1 ?_
  refine wq_iload_n q111_2 rfl ?_
  refine wq_iload_n q111_3 rfl ?_
  refine cV (As := [_, _, _]) q111_4 m_120 rfl rfl rfl ⟨by decide, rfl⟩ rfl (c_acted0 hf h3 ?_)
  refine wq_if_eq q111_7 (fun c7 => ?_) (fun c7 => ?_)
  · refine wq_iconst q111_17 ?_
    refine rI q111_18 rfl ?_
    exact hQ
  · exact absurd rfl c7
theorem c_code0 (hf : Fok f) (h3 : hi f 3 = 0) (hQ : Q (some (.int (-1))) (HP hi hl f dr t)) : Ct G (0, 0) (d + 8) 113 [.ref 0] (HP hi hl f dr t) Q := by
  obtain ⟨f1, -⟩ := hf.frt hi hl f dr t
  have hs : Sok 38 39 := Or.inl ⟨rfl, rfl⟩
  have ec : hI (HP hi hl f dr t) f 3 = nI 0 := h3
  refine Ct_of (ls := [_, _]) m_113.1.2.2.1 (Nat.le_of_ble_eq_true rfl) rfl ?_
  refine wq_aload_n q113_0 rfl ?_
  refine wq_getR q113_1 (by first | exact f1 | rfl) rfl (by first | exact f1 | rfl) ?_
  refine wq_aload_n q113_4 rfl ?_
  refine wq_getR q113_5 (by first | exact f1 | rfl) rfl (by first | exact f1 | rfl) ?_
  refine wq_getI q113_8 (by first | exact f1 | rfl) rfl ?_
  rw [ec]
  refine cV (As := [_]) q113_11 m_59 rfl rfl rfl ⟨by decide, rfl⟩ rfl (c_richest (hs.scn _ _ _ _ _) (by omega) ?_)
  refine wq_istore_n (ls' := [_, _]) q113_14 rfl ?_
  refine wq_aload_n q113_15 rfl ?_
  refine wq_iconst q113_16 ?_
  refine wq_iconst q113_17 ?_
  refine wq_iconst q113_18 ?_
  refine cV (As := [_, _, _]) q113_19 m_120 rfl rfl rfl ⟨by decide, rfl⟩ rfl (c_acted0 hf h3 ?_)
  refine wq_if_eq q113_22 (fun c22 => ?_) (fun c22 => ?_)
  · refine wq_iconst q113_29 ?_
    refine rI q113_30 rfl ?_
    exact hQ
  · exact absurd rfl c22
theorem c_mirror0 {x y : Int32} (hf : Fok f) (h3 : hi f 3 = 0) (hQ : Q (some (.int 0)) (HP hi hl f dr t)) : Ct G (0, 0) (d + 2) 112 [.ref 0, .int x, .int y] (HP hi hl f dr t) Q := by
  refine Ct_of (ls := [_, _, _]) m_112.1.2.2.1 (Nat.le_of_ble_eq_true rfl) rfl ?_
  refine wq_aload_n q112_0 rfl ?_
  refine wq_iload_n q112_1 rfl ?_
  refine cV (As := [_]) q112_2 m_103 rfl rfl rfl ⟨by decide, rfl⟩ rfl (c_isPrisoner hf ?_)
  refine wq_if_eq q112_5 (fun c5 => ?_) (fun c5 => ?_)
  · refine wq_iconst q112_25 ?_
    refine rI q112_26 rfl ?_
    exact hQ
  · exact q00 c5 h3
theorem c_days0 {x : Int32} (hf : Fok f) (h3 : hi f 3 = 0) (hQ : Q (some (.int (-1))) (HP hi hl f dr t)) : Ct G (0, 0) (d + 8) 114 [.ref 0, .int x] (HP hi hl f dr t) Q := by
  refine Ct_of (ls := [_, _, _]) m_114.1.2.2.1 (Nat.le_of_ble_eq_true rfl) rfl ?_
  refine wq_aload_n q114_0 rfl ?_
  refine wq_iload_n q114_1 rfl ?_
  refine cV (As := [_]) q114_2 m_119 rfl rfl rfl ⟨by decide, rfl⟩ rfl (c_canSpend hf ?_)
  refine wq_if_ne q114_5 (fun c5 => ?_) (fun c5 => ?_)
  · have c := i10 c5
    simp [spB, h3] at c
  · refine wq_iconst q114_8 ?_
    refine rI q114_9 rfl ?_
    exact hQ
theorem c_years0 {x : Int32} {sd : Int64} (hf : Fok f) (h3 : hi f 3 = 0) (hQ : Q (some (.int (-1))) (HP hi hl f dr t)) : Ct G (0, 0) (d + 8) 115 [.ref 0, .int x, .long sd] (HP hi hl f dr t) Q := by
  refine Ct_of (ls := [_, _, _, _, _]) m_115.1.2.2.1 (Nat.le_of_ble_eq_true rfl) rfl ?_
  refine wq_aload_n q115_0 rfl ?_
  refine wq_iload_n q115_1 rfl ?_
  refine cV (As := [_]) q115_2 m_119 rfl rfl rfl ⟨by decide, rfl⟩ rfl (c_canSpend hf ?_)
  refine wq_if_ne q115_5 (fun c5 => ?_) (fun c5 => ?_)
  · have c := i10 c5
    simp [spB, h3] at c
  · refine wq_iconst q115_8 ?_
    refine rI q115_9 rfl ?_
    exact hQ
theorem c_run0 {x w : Int32} (hf : Fok f) (h3 : hi f 3 = 0) (hQ : Q (some (.int (-1000000))) (HP hi hl f dr t)) : Ct G (0, 0) (d + 8) 127 [.ref 0, .int x, .int w] (HP hi hl f dr t) Q := by
  refine Ct_of (ls := [_, _, _, _]) m_127.1.2.2.1 (Nat.le_of_ble_eq_true rfl) rfl ?_
  refine wq_aload_n q127_0 rfl ?_
  refine wq_iload_n q127_1 rfl ?_
  refine cV (As := [_]) q127_2 m_129 rfl rfl rfl ⟨by decide, rfl⟩ rfl (c_isPlan ?_)
  refine wq_if_eq q127_5 (fun c5 => ?_) (fun c5 => ?_)
  · refine wq_ldc q127_24 ?_
    refine rI q127_26 rfl ?_
    exact hQ
  · refine wq_aload_n q127_8 rfl ?_
    refine cV (As := []) q127_9 m_102 rfl rfl rfl ⟨by decide, rfl⟩ rfl (c_hasFort hf ?_)
    refine wq_if_eq q127_12 (fun c12 => ?_) (fun c12 => ?_)
    · refine wq_ldc q127_24 ?_
      refine rI q127_26 rfl ?_
      exact hQ
    · exact p00 c12 h3
theorem c_perform0 {x : Int32} (hf : Fok f) (h3 : hi f 3 = 0) (hQ : Q (some (.int (-1))) (HP hi hl f dr t)) : Ct G (0, 0) (d + 8) 128 [.ref 0, .int x] (HP hi hl f dr t) Q := by
  refine Ct_of (ls := [_, _, _, _]) m_128.1.2.2.1 (Nat.le_of_ble_eq_true rfl) rfl ?_
  refine wq_aload_n q128_0 rfl ?_
  refine wq_iload_n q128_1 rfl ?_
  refine cV (As := [_]) q128_2 m_129 rfl rfl rfl ⟨by decide, rfl⟩ rfl (c_isPlan ?_)
  refine wq_if_eq q128_5 (fun c5 => ?_) (fun c5 => ?_)
  · refine wq_iconst q128_15 ?_
    refine rI q128_16 rfl ?_
    exact hQ
  · refine wq_aload_n q128_8 rfl ?_
    refine cV (As := []) q128_9 m_102 rfl rfl rfl ⟨by decide, rfl⟩ rfl (c_hasFort hf ?_)
    refine wq_if_ne q128_12 (fun c12 => ?_) (fun c12 => ?_)
    · exact p00 c12 h3
    · refine wq_iconst q128_15 ?_
      refine rI q128_16 rfl ?_
      exact hQ
theorem c_far0 {x y : Int32} (hf : Fok f) (h4 : hi f 4 = 0) (hQ : Q (some (.int (-1))) (HP hi hl f dr t)) : Ct G (0, 0) (d + 5) 131 [.ref 0, .int x, .int y] (HP hi hl f dr t) Q := by
  refine Ct_of (ls := [_, _, _]) m_131.1.2.2.1 (Nat.le_of_ble_eq_true rfl) rfl ?_
  refine wq_aload_n q131_0 rfl ?_
  refine wq_iload_n q131_1 rfl ?_
  refine cV (As := [_]) q131_2 m_105 rfl rfl rfl ⟨by decide, rfl⟩ rfl (c_isEvent hf ?_)
  refine wq_if_eq q131_5 (fun c5 => ?_) (fun c5 => ?_)
  · refine wq_iconst q131_16 ?_
    refine rI q131_17 rfl ?_
    exact hQ
  · exact q00 c5 h4
theorem c_wall0 {x y : Int32} (hf : Fok f) (h4 : hi f 4 = 0) (hQ : Q (some (.int (-1))) (HP hi hl f dr t)) : Ct G (0, 0) (d + 5) 132 [.ref 0, .int x, .int y] (HP hi hl f dr t) Q := by
  refine Ct_of (ls := [_, _, _, _, _]) m_132.1.2.2.1 (Nat.le_of_ble_eq_true rfl) rfl ?_
  refine wq_aload_n q132_0 rfl ?_
  refine wq_iload_n q132_1 rfl ?_
  refine cV (As := [_]) q132_2 m_105 rfl rfl rfl ⟨by decide, rfl⟩ rfl (c_isEvent hf ?_)
  refine wq_if_eq q132_5 (fun c5 => ?_) (fun c5 => ?_)
  · refine wq_iconst q132_17 ?_
    refine rI q132_18 rfl ?_
    exact hQ
  · exact q00 c5 h4
theorem c_listen0 {x : Int32} (hf : Fok f) (h4 : hi f 4 = 0) (hQ : Q (some (.int (-1))) (HP hi hl f dr t)) : Ct G (0, 0) (d + 6) 133 [.ref 0, .int x] (HP hi hl f dr t) Q := by
  refine Ct_of (ls := [_, _]) m_133.1.2.2.1 (Nat.le_of_ble_eq_true rfl) rfl ?_
  refine wq_aload_n q133_0 rfl ?_
  refine wq_iload_n q133_1 rfl ?_
  refine cV (As := [_]) q133_2 m_105 rfl rfl rfl ⟨by decide, rfl⟩ rfl (c_isEvent hf ?_)
  refine wq_if_eq q133_5 (fun c5 => ?_) (fun c5 => ?_)
  · refine wq_iconst q133_23 ?_
    refine rI q133_24 rfl ?_
    exact hQ
  · exact q00 c5 h4
theorem c_escape0 {x y : Int32} (hf : Fok f) (h4 : hi f 4 = 0) (hQ : Q (some (.int (-1))) (HP hi hl f dr t)) : Ct G (0, 0) (d + 6) 134 [.ref 0, .int x, .int y] (HP hi hl f dr t) Q := by
  refine Ct_of (ls := [_, _, _, _, _, _, _, _, _]) m_134.1.2.2.1 (Nat.le_of_ble_eq_true rfl) rfl ?_
  refine wq_aload_n q134_0 rfl ?_
  refine wq_iload_n q134_1 rfl ?_
  refine cV (As := [_]) q134_2 m_105 rfl rfl rfl ⟨by decide, rfl⟩ rfl (c_isEvent hf ?_)
  refine wq_if_eq q134_5 (fun c5 => ?_) (fun c5 => ?_)
  · refine wq_iconst q134_25 ?_
    refine rI q134_26 rfl ?_
    exact hQ
  · exact q00 c5 h4
theorem c_trust0 {x : Int32} (hf : Fok f) (h3 : hi f 3 = 0) (hQ : Q (some (.int (-1))) (HP hi hl f dr t)) : Ct G (0, 0) (d + 1) 135 [.ref 0, .int x] (HP hi hl f dr t) Q := by
  refine Ct_of (ls := [_, _, _, _, _]) m_135.1.2.2.1 (Nat.le_of_ble_eq_true rfl) rfl ?_
  refine wq_aload_n q135_0 rfl ?_
  refine wq_iload_n q135_1 rfl ?_
  refine cV (As := [_]) q135_2 m_104 rfl rfl rfl ⟨by decide, rfl⟩ rfl (c_isCell hf ?_)
  refine wq_if_ne q135_5 (fun c5 => ?_) (fun c5 => ?_)
  · exact q00 c5 h3
  · refine wq_iconst q135_8 ?_
    refine rI q135_9 rfl ?_
    exact hQ
theorem c_wears0 (hf : Fok f) (h3 : hi f 3 = 0) (hQ : Q (some (.int (-1))) (HP hi hl f dr t)) : Ct G (0, 0) (d + 2) 136 [.ref 0] (HP hi hl f dr t) Q := by
  refine Ct_of (ls := [_, _, _, _]) m_136.1.2.2.1 (Nat.le_of_ble_eq_true rfl) rfl ?_
  refine wq_aload_n q136_0 rfl ?_
  refine cV (As := []) q136_1 m_102 rfl rfl rfl ⟨by decide, rfl⟩ rfl (c_hasFort hf ?_)
  refine wq_if_ne q136_4 (fun c4 => ?_) (fun c4 => ?_)
  · exact p00 c4 h3
  · refine wq_iconst q136_7 ?_
    refine rI q136_8 rfl ?_
    exact hQ
theorem c_seat0 {x : Int32} (hf : Fok f) (h3 : hi f 3 = 0) (hQ : Q (some (.int (-1))) (HP hi hl f dr t)) : Ct G (0, 0) (d + 8) 138 [.ref 0, .int x] (HP hi hl f dr t) Q := by
  refine Ct_of (ls := [_, _]) m_138.1.2.2.1 (Nat.le_of_ble_eq_true rfl) rfl ?_
  refine wq_aload_n q138_0 rfl ?_
  refine wq_iload_n q138_1 rfl ?_
  refine cV (As := [_]) q138_2 m_103 rfl rfl rfl ⟨by decide, rfl⟩ rfl (c_isPrisoner hf ?_)
  refine wq_if_eq q138_5 (fun c5 => ?_) (fun c5 => ?_)
  · refine wq_iconst q138_16 ?_
    refine rI q138_17 rfl ?_
    exact hQ
  · exact q00 c5 h3
theorem c_best0 (hf : Fok f) (h3 : hi f 3 = 0) (hQ : Q (some (.int (-1))) (HP hi hl f dr t)) : Ct G (0, 0) (d + 8) 139 [.ref 0] (HP hi hl f dr t) Q := by
  obtain ⟨f1, -⟩ := hf.frt hi hl f dr t
  have ec : hI (HP hi hl f dr t) f 3 = 0 := h3
  refine Ct_of (ls := [_, _, _, _, _]) m_139.1.2.2.1 (Nat.le_of_ble_eq_true rfl) rfl ?_
  refine wq_iconst q139_0 ?_
  refine wq_istore_n (ls' := [_, _, _, _, _]) q139_1 rfl ?_
  refine wq_iconst q139_2 ?_
  refine wq_istore_n (ls' := [_, _, _, _, _]) q139_3 rfl ?_
  refine wq_iconst q139_4 ?_
  refine wq_istore_n (ls' := [_, _, _, _, _]) q139_5 rfl ?_
  refine wq_iload_n q139_6 rfl ?_
  refine wq_aload_n q139_7 rfl ?_
  refine wq_getR q139_8 (by first | exact f1 | rfl) rfl (by first | exact f1 | rfl) ?_
  refine wq_getI q139_11 (by first | exact f1 | rfl) rfl ?_
  refine wq_icmp_ge q139_14 (fun c14 => ?_) (fun c14 => ?_)
  · refine wq_iload_n q139_41 rfl ?_
    refine rI q139_42 rfl ?_
    exact hQ
  · rw [ec] at c14
    exact absurd (by decide) c14
theorem c_swap0 {x : Int32} (hf : Fok f) (h3 : hi f 3 = 0) (hQ : Q (some (.int (-1))) (HP hi hl f dr t)) : Ct G (0, 0) (d + 8) 140 [.ref 0, .int x] (HP hi hl f dr t) Q := by
  refine Ct_of (ls := [_, _, _, _, _, _, _]) m_140.1.2.2.1 (Nat.le_of_ble_eq_true rfl) rfl ?_
  refine wq_aload_n q140_0 rfl ?_
  refine cV (As := []) q140_1 m_102 rfl rfl rfl ⟨by decide, rfl⟩ rfl (c_hasFort hf ?_)
  refine wq_if_eq q140_4 (fun c4 => ?_) (fun c4 => ?_)
  · refine wq_iconst q140_16 ?_
    refine rI q140_17 rfl ?_
    exact hQ
  · exact p00 c4 h3
theorem c_price0 {x : Int32} (hf : Fok f) (h3 : hi f 3 = 0) (hQ : Q (some (.int (-1))) (HP hi hl f dr t)) : Ct G (0, 0) (d + 8) 141 [.ref 0, .int x] (HP hi hl f dr t) Q := by
  refine Ct_of (ls := [_, _, _, _, _, _]) m_141.1.2.2.1 (Nat.le_of_ble_eq_true rfl) rfl ?_
  refine wq_aload_n q141_0 rfl ?_
  refine cV (As := []) q141_1 m_102 rfl rfl rfl ⟨by decide, rfl⟩ rfl (c_hasFort hf ?_)
  refine wq_if_eq q141_4 (fun c4 => ?_) (fun c4 => ?_)
  · refine wq_iconst q141_16 ?_
    refine rI q141_17 rfl ?_
    exact hQ
  · exact p00 c4 h3
theorem c_canBuy0 {x y : Int32} (hf : Fok f) (h3 : hi f 3 = 0) (hQ : Q (some (.int 0)) (HP hi hl f dr t)) : Ct G (0, 0) (d + 2) 146 [.ref 0, .int x, .int y] (HP hi hl f dr t) Q := by
  refine Ct_of (ls := [_, _, _]) m_146.1.2.2.1 (Nat.le_of_ble_eq_true rfl) rfl ?_
  refine wq_aload_n q146_0 rfl ?_
  refine wq_iload_n q146_1 rfl ?_
  refine cV (As := [_]) q146_2 m_103 rfl rfl rfl ⟨by decide, rfl⟩ rfl (c_isPrisoner hf ?_)
  refine wq_if_eq q146_5 (fun c5 => ?_) (fun c5 => ?_)
  · refine wq_iconst q146_41 ?_
    refine rI q146_42 rfl ?_
    exact hQ
  · exact q00 c5 h3
theorem c_buys0 {o p x y : Int32} (hf : Fok f) (h3 : hi f 3 = 0) (hQ : Q (some (.int (-1000000))) (HP hi hl f dr t)) : Ct G (0, 0) (d + 7) 142 [.ref 0, .int o, .int p, .int x, .int y] (HP hi hl f dr t) Q := by
  refine Ct_of (ls := [_, _, _, _, _]) m_142.1.2.2.1 (Nat.le_of_ble_eq_true rfl) rfl ?_
  refine wq_aload_n q142_0 rfl ?_
  refine wq_iload_n q142_1 rfl ?_
  refine wq_iload_n q142_2 rfl ?_
  refine cV (As := [_, _]) q142_3 m_146 rfl rfl rfl ⟨by decide, rfl⟩ rfl (c_canBuy0 hf h3 ?_)
  refine wq_if_eq q142_6 (fun c6 => ?_) (fun c6 => ?_)
  · refine wq_ldc q142_29 ?_
    refine rI q142_31 rfl ?_
    exact hQ
  · exact absurd rfl c6
theorem c_rests0 {o p x : Int32} (hf : Fok f) (h3 : hi f 3 = 0) (hQ : Q (some (.int (-1))) (HP hi hl f dr t)) : Ct G (0, 0) (d + 7) 143 [.ref 0, .int o, .int p, .int x] (HP hi hl f dr t) Q := by
  refine Ct_of (ls := [_, _, _, _, _, _, _, _]) m_143.1.2.2.1 (Nat.le_of_ble_eq_true rfl) rfl ?_
  refine wq_aload_n q143_0 rfl ?_
  refine wq_iload_n q143_1 rfl ?_
  refine wq_iload_n q143_2 rfl ?_
  refine cV (As := [_, _]) q143_3 m_146 rfl rfl rfl ⟨by decide, rfl⟩ rfl (c_canBuy0 hf h3 ?_)
  refine wq_if_eq q143_6 (fun c6 => ?_) (fun c6 => ?_)
  · refine wq_iconst q143_14 ?_
    refine rI q143_15 rfl ?_
    exact hQ
  · exact absurd rfl c6
end NOFORT
