/-! THE CLASS: its small methods -/
def inB (x m : Int32) : Bool := decide (0 ≤ x) && decide (x < m)
theorem inB_t {x m : Int32} (h1 : ¬ x < 0) (h2 : ¬ m ≤ x) : inB x m = true := by simp [inB, Int32.not_lt.mp h1, Int32.not_le.mp h2]
theorem inB_f1 {x m : Int32} (h1 : x < 0) : inB x m = false := by simp [inB, Int32.not_le.mpr h1]
theorem inB_f2 {x m : Int32} (h2 : m ≤ x) : inB x m = false := by simp [inB, Int32.not_lt.mpr h2]
/-- which law holds, as a cell -/
def LwN (hi : Nat → Nat → Int32) (lw : Option Nat) : Prop := (lw = none ∧ hi 0 5 < 0) ∨ ∃ k lc, lw = some (13 + 5 * k) ∧ hi 0 5 = nI k ∧ k < lc ∧ hi 0 4 = nI lc ∧ lc ≤ 4
section OWN
variable {G : ph_G} {d a r n f dr t sz : Nat} {hi : Nat → Nat → Int32} {hl : Nat → Nat → Int64} {Q : Option Value → ph_H → Prop} {lw : Option Nat}
theorem c_hasFort (hf : Fok f) (hQ : Q (some (.int (if 0 < hi f 3 then 1 else 0))) (HP hi hl f dr t)) : Ct G (0, 0) d 102 [.ref 0] (HP hi hl f dr t) Q := by
  obtain ⟨f1, -⟩ := hf.frt hi hl f dr t
  refine Ct_of (ls := [_]) m_102.1.2.2.1 (Nat.le_of_ble_eq_true rfl) rfl ?_
  refine wq_aload_n q102_0 rfl ?_
  refine wq_getR q102_1 (by first | exact f1 | rfl) rfl (by first | exact f1 | rfl) ?_
  refine wq_getI q102_4 (by first | exact f1 | rfl) rfl ?_
  refine wq_if_le q102_7 (fun c7 => ?_) (fun c7 => ?_)
  · rw [if_neg (show ¬ 0 < hi f 3 from Int32.not_lt.mpr c7)] at hQ
    refine wq_iconst q102_14 ?_
    refine rI q102_15 rfl ?_
    exact hQ
  · rw [if_pos (show 0 < hi f 3 from Int32.not_le.mp c7)] at hQ
    refine wq_iconst q102_10 ?_
    refine wq_goto q102_11 ?_
    refine rI q102_15 rfl ?_
    exact hQ
theorem c_isPrisoner {p : Int32} (hf : Fok f) (hQ : Q (some (.int (if inB p (hi f 3) = true then 1 else 0))) (HP hi hl f dr t)) : Ct G (0, 0) d 103 [.ref 0, .int p] (HP hi hl f dr t) Q := by
  obtain ⟨f1, -⟩ := hf.frt hi hl f dr t
  refine Ct_of (ls := [_, _]) m_103.1.2.2.1 (Nat.le_of_ble_eq_true rfl) rfl ?_
  refine wq_iload_n q103_0 rfl ?_
  refine wq_if_lt q103_1 (fun c1 => ?_) (fun c1 => ?_)
  · rw [inB_f1 c1] at hQ
    refine wq_iconst q103_19 ?_
    refine rI q103_20 rfl ?_
    exact hQ
  · refine wq_iload_n q103_4 rfl ?_
    refine wq_aload_n q103_5 rfl ?_
    refine wq_getR q103_6 (by first | exact f1 | rfl) rfl (by first | exact f1 | rfl) ?_
    refine wq_getI q103_9 (by first | exact f1 | rfl) rfl ?_
    refine wq_icmp_ge q103_12 (fun c12 => ?_) (fun c12 => ?_)
    · rw [inB_f2 (show hi f 3 ≤ p from c12)] at hQ
      refine wq_iconst q103_19 ?_
      refine rI q103_20 rfl ?_
      exact hQ
    · rw [inB_t c1 (show ¬ hi f 3 ≤ p from c12)] at hQ
      refine wq_iconst q103_15 ?_
      refine wq_goto q103_16 ?_
      refine rI q103_20 rfl ?_
      exact hQ
theorem c_isCell {p : Int32} (hf : Fok f) (hQ : Q (some (.int (if inB p (hi f 3) = true then 1 else 0))) (HP hi hl f dr t)) : Ct G (0, 0) d 104 [.ref 0, .int p] (HP hi hl f dr t) Q := by
  obtain ⟨f1, -⟩ := hf.frt hi hl f dr t
  refine Ct_of (ls := [_, _]) m_104.1.2.2.1 (Nat.le_of_ble_eq_true rfl) rfl ?_
  refine wq_iload_n q104_0 rfl ?_
  refine wq_if_lt q104_1 (fun c1 => ?_) (fun c1 => ?_)
  · rw [inB_f1 c1] at hQ
    refine wq_iconst q104_19 ?_
    refine rI q104_20 rfl ?_
    exact hQ
  · refine wq_iload_n q104_4 rfl ?_
    refine wq_aload_n q104_5 rfl ?_
    refine wq_getR q104_6 (by first | exact f1 | rfl) rfl (by first | exact f1 | rfl) ?_
    refine wq_getI q104_9 (by first | exact f1 | rfl) rfl ?_
    refine wq_icmp_ge q104_12 (fun c12 => ?_) (fun c12 => ?_)
    · rw [inB_f2 (show hi f 3 ≤ p from c12)] at hQ
      refine wq_iconst q104_19 ?_
      refine rI q104_20 rfl ?_
      exact hQ
    · rw [inB_t c1 (show ¬ hi f 3 ≤ p from c12)] at hQ
      refine wq_iconst q104_15 ?_
      refine wq_goto q104_16 ?_
      refine rI q104_20 rfl ?_
      exact hQ
theorem c_isEvent {p : Int32} (hf : Fok f) (hQ : Q (some (.int (if inB p (hi f 4) = true then 1 else 0))) (HP hi hl f dr t)) : Ct G (0, 0) d 105 [.ref 0, .int p] (HP hi hl f dr t) Q := by
  obtain ⟨f1, -⟩ := hf.frt hi hl f dr t
  refine Ct_of (ls := [_, _]) m_105.1.2.2.1 (Nat.le_of_ble_eq_true rfl) rfl ?_
  refine wq_iload_n q105_0 rfl ?_
  refine wq_if_lt q105_1 (fun c1 => ?_) (fun c1 => ?_)
  · rw [inB_f1 c1] at hQ
    refine wq_iconst q105_19 ?_
    refine rI q105_20 rfl ?_
    exact hQ
  · refine wq_iload_n q105_4 rfl ?_
    refine wq_aload_n q105_5 rfl ?_
    refine wq_getR q105_6 (by first | exact f1 | rfl) rfl (by first | exact f1 | rfl) ?_
    refine wq_getI q105_9 (by first | exact f1 | rfl) rfl ?_
    refine wq_icmp_ge q105_12 (fun c12 => ?_) (fun c12 => ?_)
    · rw [inB_f2 (show hi f 4 ≤ p from c12)] at hQ
      refine wq_iconst q105_19 ?_
      refine rI q105_20 rfl ?_
      exact hQ
    · rw [inB_t c1 (show ¬ hi f 4 ≤ p from c12)] at hQ
      refine wq_iconst q105_15 ?_
      refine wq_goto q105_16 ?_
      refine rI q105_20 rfl ?_
      exact hQ
theorem c_teller {wi : Nat} (hf : Fok f) (hwi : wi < 7) (hc0 : hi (f + 1) 0 = nI wi) (hQ : Q (some (.int (hi 39 wi))) (HP hi hl f dr t)) : Ct G (0, 0) (d + 1) 106 [.ref 0] (HP hi hl f dr t) Q := by
  obtain ⟨f1, -⟩ := hf.frt hi hl f dr t
  have ew : hI (HP hi hl f dr t) (f + 1) 0 = nI wi := hc0
  refine Ct_of (ls := [_]) m_106.1.2.2.1 (Nat.le_of_ble_eq_true rfl) rfl ?_
  refine wq_aload_n q106_0 rfl ?_
  refine wq_getR q106_1 (by first | exact f1 | rfl) rfl (by first | exact f1 | rfl) ?_
  refine wq_getR q106_4 (by first | exact f1 | rfl) rfl (by first | exact f1 | rfl) ?_
  refine wq_iconst q106_7 ?_
  refine wq_aload_n q106_8 rfl ?_
  refine wq_getR q106_9 (by first | exact f1 | rfl) rfl (by first | exact f1 | rfl) ?_
  refine cV (As := []) q106_12 m_16 rfl rfl (by first | exact f1 | rfl) ⟨by decide, rfl⟩ rfl (c_window (by exact hf.frt hi hl f dr t) ?_)
  rw [ew]
  refine wq_iadd q106_15 ?_
  refine aI q106_16 rfl ((by rw [show (0 : Int32) = nI 0 from rfl, nI_add, Nat.zero_add])) (by show wi < 33; omega) (by first | decide | omega) ?_
  refine rI q106_17 rfl ?_
  exact hQ
theorem c_logged {dy : Nat} (h1 : hi 39 32 = nI dy) (h1' : dy ≤ 9999) (hQ : Q (some (.int (nI (min dy 60)))) (HP hi hl f dr t)) : Ct G (0, 0) (d + 1) 107 [.ref 0] (HP hi hl f dr t) Q := by
  have e1 : hI (HP hi hl f dr t) 39 32 = nI dy := h1
  refine Ct_of (ls := [_]) m_107.1.2.2.1 (Nat.le_of_ble_eq_true rfl) rfl ?_
  refine wq_aload_n q107_0 rfl ?_
  refine wq_getR q107_1 rfl rfl rfl ?_
  refine wq_getR q107_4 rfl rfl rfl ?_
  refine wq_bipush q107_7 ?_
  refine aI q107_9 rfl (rfl) (by decide) (by first | decide | omega) ?_
  refine wq_bipush q107_10 ?_
  refine wq_min q107_12 ⟨Nat.le.refl, Nat.le.refl, Nat.le_of_ble_eq_true rfl⟩ ?_
  refine rI q107_15 rfl ?_
  rw [e1]
  have e7 : (if (60 : Int32) < nI dy then (60 : Int32) else nI dy) = nI (min dy 60) := by
    rw [show (60 : Int32) = nI 60 from rfl]
    by_cases hc : 60 < dy
    · rw [if_pos ((nI_ltI (by omega) (by omega)).mpr hc), Nat.min_eq_right (by omega)]
    · rw [if_neg (fun z => hc ((nI_ltI (by omega) (by omega)).mp z)), Nat.min_eq_left (by omega)]
  rw [e7]
  exact hQ
theorem c_lawNow (hlw : LwN hi lw) (hQ : Q (some (va_rf lw)) (HP hi hl f dr t)) : Ct G (0, 0) d 108 [.ref 0] (HP hi hl f dr t) Q := by
  refine Ct_of (ls := [_]) m_108.1.2.2.1 (Nat.le_of_ble_eq_true rfl) rfl ?_
  rcases hlw with ⟨rfl, h5⟩ | ⟨k, lc, rfl, h5, hk, h4, hlc⟩
  · refine wq_aload_n q108_0 rfl ?_
    refine wq_getI q108_1 rfl rfl ?_
    refine wq_if_lt q108_4 (fun c4 => ?_) (fun c4 => ?_)
    · refine wq_null q108_30 ?_
      refine rN q108_31 ?_
      exact hQ
    · exact absurd h5 c4
  · have e5 : hI (HP hi hl f dr t) 0 5 = nI k := h5
    have e4 : hI (HP hi hl f dr t) 0 4 = nI lc := h4
    refine wq_aload_n q108_0 rfl ?_
    refine wq_getI q108_1 rfl rfl ?_
    refine wq_if_lt q108_4 (fun c4 => ?_) (fun c4 => ?_)
    · rw [e5] at c4
      exact absurd c4 (nI_pos (by omega))
    · refine wq_aload_n q108_7 rfl ?_
      refine wq_getI q108_8 rfl rfl ?_
      refine wq_aload_n q108_11 rfl ?_
      refine wq_getI q108_12 rfl rfl ?_
      refine wq_icmp_ge q108_15 (fun c15 => ?_) (fun c15 => ?_)
      · rw [e5, e4, nI_leI (by omega) (by omega)] at c15
        omega
      · refine wq_aload_n q108_18 rfl ?_
        refine wq_getR q108_19 rfl rfl rfl ?_
        refine wq_aload_n q108_22 rfl ?_
        refine wq_getI q108_23 rfl rfl ?_
        rw [e5]
        refine aA (j := k) q108_26 rfl (by omega) rfl (show k < 5 by omega) (by decide) (b := 13 + 5 * k) ?_ ?_
        · have : k = 0 ∨ k = 1 ∨ k = 2 ∨ k = 3 := by omega
          rcases this with rfl | rfl | rfl | rfl <;> rfl
        · refine wq_goto q108_27 ?_
          refine rR q108_31 ?_
          exact hQ
theorem c_isPlan {p : Int32} (hQ : Q (some (.int (if inB p (hi 0 7) = true then 1 else 0))) (HP hi hl f dr t)) : Ct G (0, 0) d 129 [.ref 0, .int p] (HP hi hl f dr t) Q := by
  refine Ct_of (ls := [_, _]) m_129.1.2.2.1 (Nat.le_of_ble_eq_true rfl) rfl ?_
  refine wq_iload_n q129_0 rfl ?_
  refine wq_if_lt q129_1 (fun c1 => ?_) (fun c1 => ?_)
  · rw [inB_f1 c1] at hQ
    refine wq_iconst q129_16 ?_
    refine rI q129_17 rfl ?_
    exact hQ
  · refine wq_iload_n q129_4 rfl ?_
    refine wq_aload_n q129_5 rfl ?_
    refine wq_getI q129_6 rfl rfl ?_
    refine wq_icmp_ge q129_9 (fun c9 => ?_) (fun c9 => ?_)
    · rw [inB_f2 (show hi 0 7 ≤ p from c9)] at hQ
      refine wq_iconst q129_16 ?_
      refine rI q129_17 rfl ?_
      exact hQ
    · rw [inB_t c1 (show ¬ hi 0 7 ≤ p from c9)] at hQ
      refine wq_iconst q129_12 ?_
      refine wq_goto q129_13 ?_
      refine rI q129_17 rfl ?_
      exact hQ
theorem c_isSort {x : Int32} {h : ph_H} (hQ : Q (some (.int (if inB x 3 = true then 1 else 0))) h) : Ct G (0, 0) d 91 [.int x] h Q := by
  have e : ∀ x : Int32, x ≤ 2 ↔ ¬ (3 : Int32) ≤ x := fun x => by
    rw [Int32.le_iff_toInt_le, Int32.le_iff_toInt_le]
    have h2 : (2 : Int32).toInt = 2 := rfl
    have h3 : (3 : Int32).toInt = 3 := rfl
    omega
  refine Ct_of (ls := [_]) m_91.1.2.2.1 (Nat.le_of_ble_eq_true rfl) rfl ?_
  refine wq_iload_n q91_0 rfl ?_
  refine wq_if_lt q91_1 (fun c1 => ?_) (fun c1 => ?_)
  · rw [inB_f1 c1] at hQ
    refine wq_iconst q91_13 ?_
    refine rI q91_14 rfl ?_
    exact hQ
  · refine wq_iload_n q91_4 rfl ?_
    refine wq_iconst q91_5 ?_
    refine wq_icmp_gt q91_6 (fun c6 => ?_) (fun c6 => ?_)
    · have : (3 : Int32) ≤ x := by
        rcases Int32.lt_or_le x 3 with z | z
        · exact absurd ((e x).mpr (Int32.not_le.mpr z)) (Int32.not_le.mpr c6)
        · exact z
      rw [inB_f2 this] at hQ
      refine wq_iconst q91_13 ?_
      refine rI q91_14 rfl ?_
      exact hQ
    · rw [inB_t c1 ((e x).mp (Int32.not_lt.mp c6))] at hQ
      refine wq_iconst q91_9 ?_
      refine wq_goto q91_10 ?_
      refine rI q91_14 rfl ?_
      exact hQ
theorem c_allTruths (hf : Fok f) (hQ : Q (some (.int (1 <<< (hi f 4 &&& 31)))) (HP hi hl f dr t)) : Ct G (0, 0) d 162 [.ref 0] (HP hi hl f dr t) Q := by
  obtain ⟨f1, -⟩ := hf.frt hi hl f dr t
  refine Ct_of (ls := [_]) m_162.1.2.2.1 (Nat.le_of_ble_eq_true rfl) rfl ?_
  refine wq_iconst q162_0 ?_
  refine wq_aload_n q162_1 rfl ?_
  refine wq_getR q162_2 (by first | exact f1 | rfl) rfl (by first | exact f1 | rfl) ?_
  refine wq_getI q162_5 (by first | exact f1 | rfl) rfl ?_
  refine wq_ishl q162_8 ?_
  refine rI q162_9 rfl ?_
  exact hQ
theorem c_end {x : Int32} (hQ : Q (some (.int (if 0 ≤ x ∧ x ≤ hi 1 1 then 1 else 0))) (HP (if 0 ≤ x ∧ x ≤ hi 1 1 then up2 hi 1 1 x else hi) hl f dr t)) : Ct G (0, 0) d 88 [.ref 0, .int x] (HP hi hl f dr t) Q := by
  refine Ct_of (ls := [_, _]) m_88.1.2.2.1 (Nat.le_of_ble_eq_true rfl) rfl ?_
  refine wq_iload_n q88_0 rfl ?_
  refine wq_if_lt q88_1 (fun c1 => ?_) (fun c1 => ?_)
  · rw [if_neg (fun z => absurd z.1 (Int32.not_le.mpr c1)), if_neg (fun z => absurd z.1 (Int32.not_le.mpr c1))] at hQ
    refine wq_iconst q88_15 ?_
    refine rI q88_16 rfl ?_
    exact hQ
  · refine wq_iload_n q88_4 rfl ?_
    refine wq_aload_n q88_5 rfl ?_
    refine wq_getR q88_6 rfl rfl rfl ?_
    refine wq_getI q88_9 rfl rfl ?_
    refine wq_icmp_le q88_12 (fun c12 => ?_) (fun c12 => ?_)
    · rw [if_pos ⟨Int32.not_lt.mp c1, c12⟩, if_pos ⟨Int32.not_lt.mp c1, c12⟩] at hQ
      refine wq_aload_n q88_17 rfl ?_
      refine wq_getR q88_18 rfl rfl rfl ?_
      refine wq_iload_n q88_21 rfl ?_
      refine wq_putI q88_22 rfl rfl rfl rfl ?_
      refine wq_iconst q88_25 ?_
      refine rI q88_26 rfl ?_
      exact hQ
    · rw [if_neg (fun z => c12 z.2), if_neg (fun z => c12 z.2)] at hQ
      refine wq_iconst q88_15 ?_
      refine rI q88_16 rfl ?_
      exact hQ
theorem c_law {x : Int32} (hQ : Q (some (.int (if -1 ≤ x ∧ x < hi 0 4 then 1 else 0))) (HP (if -1 ≤ x ∧ x < hi 0 4 then up2 hi 0 5 x else hi) hl f dr t)) : Ct G (0, 0) d 98 [.ref 0, .int x] (HP hi hl f dr t) Q := by
  refine Ct_of (ls := [_, _]) m_98.1.2.2.1 (Nat.le_of_ble_eq_true rfl) rfl ?_
  refine wq_iload_n q98_0 rfl ?_
  refine wq_iconst q98_1 ?_
  refine wq_icmp_lt q98_2 (fun c2 => ?_) (fun c2 => ?_)
  · rw [if_neg (fun z => absurd z.1 (Int32.not_le.mpr c2)), if_neg (fun z => absurd z.1 (Int32.not_le.mpr c2))] at hQ
    refine wq_iconst q98_13 ?_
    refine rI q98_14 rfl ?_
    exact hQ
  · refine wq_iload_n q98_5 rfl ?_
    refine wq_aload_n q98_6 rfl ?_
    refine wq_getI q98_7 rfl rfl ?_
    refine wq_icmp_lt q98_10 (fun c10 => ?_) (fun c10 => ?_)
    · rw [if_pos ⟨Int32.not_lt.mp c2, c10⟩, if_pos ⟨Int32.not_lt.mp c2, c10⟩] at hQ
      refine wq_aload_n q98_15 rfl ?_
      refine wq_iload_n q98_16 rfl ?_
      refine wq_putI q98_17 rfl rfl rfl rfl ?_
      refine wq_iconst q98_20 ?_
      refine rI q98_21 rfl ?_
      exact hQ
    · rw [if_neg (fun z => c10 z.2), if_neg (fun z => c10 z.2)] at hQ
      refine wq_iconst q98_13 ?_
      refine rI q98_14 rfl ?_
      exact hQ
end OWN
