/-! STRINGS: contracts over the literals; the tape's letters and numbers -/
def cB (j i : Nat) : Int32 := (cByt.getD j []).getD i 0
def cN (j : Nat) : Nat := cLen.getD j 0
theorem cN_lt : ∀ j, j < 6 → cN j ≤ 6 := by decide
theorem cB_ok : ∀ j, j < 6 → ∀ i, i < 6 → 0 ≤ cB j i ∧ cB j i < 128 := by decide
theorem cB_ch : ∀ j, j < 6 → ∀ i, i < 6 → ((cB j i &&& 255).toUInt32 % 65536).toInt32 = cB j i := by decide
/-- where a letter stands -/
def ioR (j : Nat) (x : Int32) : Nat → Nat → Int32
  | 0, _ => -1
  | m + 1, i => if cB j i = x then nI i else ioR j x m (i + 1)
def liO (j : Nat) (x : Int32) : Int32 := ioR j x (cN j) 0
theorem i2b_lo : ∀ b, b < 128 → (nI b).toInt8.toInt32 = nI b := by decide
theorem i2b_hi : ∀ b, b < 128 → (nI (b + 128)).toInt8.toInt32 < 0 := by decide
theorem i2c_ok : ∀ b, b < 256 → ((nI b).toUInt32 % 65536).toInt32 = nI b := by decide +kernel
theorem i2b_eq {j i b : Nat} (hj : j < 6) (hi : i < 6) (hb : b < 256) : cB j i = (nI b).toInt8.toInt32 ↔ cB j i = nI b := by
  have h := cB_ok j hj i hi
  by_cases hb2 : b < 128
  · rw [i2b_lo b hb2]
  · obtain ⟨c, rfl⟩ : ∃ c, b = c + 128 := ⟨b - 128, by omega⟩
    have h2 := i2b_hi c (by omega)
    constructor
    · intro z
      rw [← z] at h2
      exact absurd h2 (Int32.not_lt.mpr h.1)
    · intro z
      have h3 := h.2
      rw [z, show (128 : Int32) = nI 128 from rfl, nI_ltI (by omega) (by omega)] at h3
      omega
section STRINGS
variable {G : ph_G} {d j : Nat} {h : ph_H} {Q : Option Value → ph_H → Prop}
theorem c_isLatin1 (hj : j < 8) (hQ : Q (some (.int 1)) h) : Ct G (0, 0) d 306 [.ref (1000 + (20 + j))] h Q := by
  refine Ct_of (ls := [_]) m_306.1.2.2.1 (Nat.le_of_ble_eq_true rfl) rfl ?_
  refine wq_getCS q306_0 ?_
  refine wq_if_eq q306_3 (fun c3 => ?_) (fun c3 => ?_)
  · exact absurd c3 (by decide)
  · refine wq_aload_n q306_6 rfl ?_
    refine wq_strc q306_7 (by omega) ?_
    refine wq_if_ne q306_10 (fun c10 => ?_) (fun c10 => ?_)
    · exact absurd rfl c10
    · refine wq_iconst q306_13 ?_
      refine wq_goto q306_14 ?_
      refine rI q306_18 rfl ?_
      exact hQ
theorem c_coder (hj : j < 8) (hQ : Q (some (.int 0)) h) : Ct G (0, 0) d 305 [.ref (1000 + (20 + j))] h Q := by
  refine Ct_of (ls := [_]) m_305.1.2.2.1 (Nat.le_of_ble_eq_true rfl) rfl ?_
  refine wq_getCS q305_0 ?_
  refine wq_if_eq q305_3 (fun c3 => ?_) (fun c3 => ?_)
  · exact absurd c3 (by decide)
  · refine wq_aload_n q305_6 rfl ?_
    refine wq_strc q305_7 (by omega) ?_
    refine wq_goto q305_10 ?_
    refine rI q305_14 rfl ?_
    exact hQ
theorem c_length (hj : j < 6) (hQ : Q (some (.int (nI (cN j)))) h) : Ct G (0, 0) (d + 1) 301 [.ref (1000 + (20 + j))] h Q := by
  refine Ct_of (ls := [_]) m_301.1.2.2.1 (Nat.le_of_ble_eq_true rfl) rfl ?_
  refine wq_aload_n q301_0 rfl ?_
  refine wq_strv q301_1 (by omega) ?_
  refine wq_strl q301_4 (by omega) ?_
  refine wq_aload_n q301_5 rfl ?_
  refine cT (As := []) q301_6 m_305 rfl rfl (by omega) rfl (c_coder (by omega) ?_)
  refine wq_ishr q301_9 ?_
  have e : Int32.ofNat (cLen.getD j 0) >>> ((0 : Int32) &&& 31) = nI (cN j) := by
    have : j = 0 ∨ j = 1 ∨ j = 2 ∨ j = 3 ∨ j = 4 ∨ j = 5 := by omega
    rcases this with rfl | rfl | rfl | rfl | rfl | rfl <;> decide
  rw [e]
  refine rI q301_10 rfl ?_
  exact hQ
theorem c_pcheck {i n : Nat} {v : Value} (hv : v = .null ∨ v = .ref (1000 + 60)) (hin : i < n) (hn : n < 2 ^ 31) (hQ : Q (some (.int (nI i))) h) : Ct G (0, 0) d 323 [.int (nI i), .int (nI n), v] h Q := by
  rcases hv with rfl | rfl
  · refine Ct_of (ls := [_, _, _]) m_323.1.2.2.1 (Nat.le_of_ble_eq_true rfl) rfl ?_
    refine wq_iload_n q323_0 rfl ?_
    refine wq_if_lt q323_1 (fun c1 => ?_) (fun c1 => ?_)
    · exact absurd c1 (nI_pos (by omega))
    · refine wq_iload_n q323_4 rfl ?_
      refine wq_iload_n q323_5 rfl ?_
      refine wq_icmp_lt q323_6 (fun c6 => ?_) (fun c6 => ?_)
      · refine wq_iload_n q323_16 rfl ?_
        refine rI q323_17 rfl ?_
        exact hQ
      · rw [nI_ltI (by omega) (by omega)] at c6
        omega
  · refine Ct_of (ls := [_, _, _]) m_323.1.2.2.1 (Nat.le_of_ble_eq_true rfl) rfl ?_
    refine wq_iload_n q323_0 rfl ?_
    refine wq_if_lt q323_1 (fun c1 => ?_) (fun c1 => ?_)
    · exact absurd c1 (nI_pos (by omega))
    · refine wq_iload_n q323_4 rfl ?_
      refine wq_iload_n q323_5 rfl ?_
      refine wq_icmp_lt q323_6 (fun c6 => ?_) (fun c6 => ?_)
      · refine wq_iload_n q323_16 rfl ?_
        refine rI q323_17 rfl ?_
        exact hQ
      · rw [nI_ltI (by omega) (by omega)] at c6
        omega
theorem c_checkIndex {i n : Nat} (hin : i < n) (hn : n < 2 ^ 31) (hQ : Q none h) : Ct G (0, 0) (d + 1) 307 [.int (nI i), .int (nI n)] h Q := by
  refine Ct_of (ls := [_, _]) m_307.1.2.2.1 (Nat.le_of_ble_eq_true rfl) rfl ?_
  refine wq_iload_n q307_0 rfl ?_
  refine wq_iload_n q307_1 rfl ?_
  refine wq_getFm q307_2 ?_ ?_
  · refine cS' (As := [_, _, _]) q307_5 m_323 rfl rfl rfl (c_pcheck (Or.inl rfl) hin hn ?_)
    refine wq_pop q307_8 rfl ?_
    refine rV q307_9 ?_
    exact hQ
  · refine cS' (As := [_, _, _]) q307_5 m_323 rfl rfl rfl (c_pcheck (Or.inr rfl) hin hn ?_)
    refine wq_pop q307_8 rfl ?_
    refine rV q307_9 ?_
    exact hQ
theorem c_lcharAt {i : Nat} (hj : j < 6) (hi : i < cN j) (hQ : Q (some (.int (cB j i))) h) : Ct G (0, 0) (d + 2) 309 [.ref (1000 + (40 + j)), .int (nI i)] h Q := by
  have h6 := cN_lt j hj
  refine Ct_of (ls := [_, _]) m_309.1.2.2.1 (Nat.le_of_ble_eq_true rfl) rfl ?_
  refine wq_iload_n q309_0 rfl ?_
  refine wq_aload_n q309_1 rfl ?_
  refine wq_strl q309_2 (by omega) ?_
  refine cS' (As := [_, _]) q309_3 m_307 rfl rfl rfl (c_checkIndex (n := cN j) hi (by omega) ?_)
  refine wq_aload_n q309_6 rfl ?_
  refine wq_iload_n q309_7 rfl ?_
  refine wq_strb q309_8 (by omega) (vp_in_nI hi (show cN j < 2 ^ 31 by omega)) ?_
  rw [nI_clamp (by omega)]
  refine wq_sipush q309_9 ?_
  refine wq_iand q309_12 ?_
  refine wq_i2c q309_13 ?_
  have e : ((((cByt.getD j []).getD i 0) &&& 255).toUInt32 % 65536).toInt32 = cB j i := cB_ch j hj i (by omega)
  rw [e]
  have e2 : narrow .char (.int (cB j i)) = .int (cB j i) := by
    rw [← e]
    exact pk_nc _
  refine rI q309_14 e2 ?_
  exact hQ
theorem c_charAt {i : Nat} (hj : j < 6) (hi : i < cN j) (hQ : Q (some (.int (cB j i))) h) : Ct G (0, 0) (d + 3) 302 [.ref (1000 + (20 + j)), .int (nI i)] h Q := by
  have h6 := cN_lt j hj
  have e2 : narrow .char (.int (cB j i)) = .int (cB j i) := by
    rw [← cB_ch j hj i (by omega)]
    exact pk_nc _
  refine Ct_of (ls := [_, _]) m_302.1.2.2.1 (Nat.le_of_ble_eq_true rfl) rfl ?_
  refine wq_aload_n q302_0 rfl ?_
  refine cT (As := []) q302_1 m_306 rfl rfl (by omega) rfl (c_isLatin1 (by omega) ?_)
  refine wq_if_eq q302_4 (fun c4 => ?_) (fun c4 => ?_)
  · exact absurd c4 (by decide)
  · refine wq_aload_n q302_7 rfl ?_
    refine wq_strv q302_8 (by omega) ?_
    refine wq_iload_n q302_11 rfl ?_
    refine cS' (As := [_, _]) q302_12 m_309 rfl rfl rfl (c_lcharAt hj hi ?_)
    refine rI q302_15 e2 ?_
    exact hQ
theorem c_indexOfChar_loop {b : Nat} (hj : j < 6) (hb : b < 256) : ∀ (m i : Nat), i + m = cN j → Q (some (.int (ioR j (nI b) m i))) h →
    wq G (0, 0) d 312 7 [some (.ref (1000 + (40 + j))), some (.int (nI b)), some (.int 0), some (.int (nI (cN j))), some (.int (nI b).toInt8.toInt32), some (.int (nI i))] [] (0, 0) h Q := by
  have h6 := cN_lt j hj
  intro m
  induction m with
  | zero =>
    intro i hm hQ
    refine wq_iload q312_7 rfl ?_
    refine wq_iload_n q312_9 rfl ?_
    refine wq_icmp_ge q312_10 (fun c10 => ?_) (fun c10 => ?_)
    · refine wq_iconst q312_31 ?_
      refine rI q312_32 rfl ?_
      exact hQ
    · rw [nI_leI (by omega) (by omega)] at c10
      omega
  | succ m ih =>
    intro i hm hQ
    rw [ioR] at hQ
    refine wq_iload q312_7 rfl ?_
    refine wq_iload_n q312_9 rfl ?_
    refine wq_icmp_ge q312_10 (fun c10 => ?_) (fun c10 => ?_)
    · rw [nI_leI (by omega) (by omega)] at c10
      omega
    · refine wq_aload_n q312_13 rfl ?_
      refine wq_iload q312_14 rfl ?_
      refine wq_strb q312_16 (by omega) (vp_in_nI (show i < cN j by omega) (show cN j < 2 ^ 31 by omega)) ?_
      rw [nI_clamp (by omega)]
      have e : (cByt.getD j []).getD i 0 = cB j i := rfl
      rw [e]
      refine wq_iload q312_17 rfl ?_
      refine wq_icmp_ne q312_19 (fun c19 => ?_) (fun c19 => ?_)
      · rw [if_neg (fun z => c19 ((i2b_eq hj (by omega) hb).mpr z))] at hQ
        refine wq_iinc (ls' := [_, _, _, _, _, _]) q312_25 rfl rfl ?_
        refine wq_goto q312_28 ?_
        rw [nI_1]
        exact ih (i + 1) (by omega) hQ
      · rw [if_pos ((i2b_eq hj (by omega) hb).mp c19)] at hQ
        refine wq_iload q312_22 rfl ?_
        refine rI q312_24 rfl ?_
        exact hQ
theorem c_indexOfChar {b : Nat} (hj : j < 6) (hb : b < 256) (hQ : Q (some (.int (liO j (nI b)))) h) : Ct G (0, 0) d 312 [.ref (1000 + (40 + j)), .int (nI b), .int 0, .int (nI (cN j))] h Q := by
  refine Ct_of (ls := [_, _, _, _, _, _]) m_312.1.2.2.1 (Nat.le_of_ble_eq_true rfl) rfl ?_
  refine wq_iload_n q312_0 rfl ?_
  refine wq_i2b q312_1 ?_
  refine wq_istore (ls' := [_, _, _, _, _, _]) q312_2 rfl ?_
  refine wq_iload_n q312_4 rfl ?_
  refine wq_istore (ls' := [_, _, _, _, _, _]) q312_5 rfl ?_
  exact c_indexOfChar_loop hj hb (cN j) 0 (by omega) hQ
theorem c_canEncode {b : Nat} (hb : b < 256) (hQ : Q (some (.int 1)) h) : Ct G (0, 0) d 310 [.int (nI b)] h Q := by
  refine Ct_of (ls := [_]) m_310.1.2.2.1 (Nat.le_of_ble_eq_true rfl) rfl ?_
  refine wq_iload_n q310_0 rfl ?_
  refine wq_if_lt q310_1 (fun c1 => ?_) (fun c1 => ?_)
  · exact absurd c1 (nI_pos (by omega))
  · refine wq_iload_n q310_4 rfl ?_
    refine wq_sipush q310_5 ?_
    refine wq_icmp_gt q310_8 (fun c8 => ?_) (fun c8 => ?_)
    · rw [show (255 : Int32) = nI 255 from rfl, nI_ltI (by omega) (by omega)] at c8
      omega
    · refine wq_iconst q310_11 ?_
      refine wq_goto q310_12 ?_
      refine rI q310_16 rfl ?_
      exact hQ
theorem cN_pos : ∀ j, j < 6 → 0 < cN j := by decide
theorem c_lindexOf {b : Nat} (hj : j < 6) (hb : b < 256) (hQ : Q (some (.int (liO j (nI b)))) h) : Ct G (0, 0) (d + 1) 311 [.ref (1000 + (40 + j)), .int (nI b), .int 0, .int (nI (cN j))] h Q := by
  have h6 := cN_lt j hj
  have h0 := cN_pos j hj
  refine Ct_of (ls := [_, _, _, _]) m_311.1.2.2.1 (Nat.le_of_ble_eq_true rfl) rfl ?_
  refine wq_iload_n q311_0 rfl ?_
  refine cS' (As := [_]) q311_1 m_310 rfl rfl rfl (c_canEncode hb ?_)
  refine wq_if_ne q311_4 (fun c4 => ?_) (fun c4 => ?_)
  · refine wq_iload_n q311_9 rfl ?_
    refine wq_iconst q311_10 ?_
    refine wq_max q311_11 ⟨Nat.le.refl, Nat.le.refl, Nat.le_of_ble_eq_true rfl⟩ ?_
    refine wq_istore_n (ls' := [_, _, _, _]) q311_14 rfl ?_
    refine wq_iload_n q311_15 rfl ?_
    refine wq_aload_n q311_16 rfl ?_
    refine wq_strl q311_17 (by omega) ?_
    refine wq_min q311_18 ⟨Nat.le.refl, Nat.le.refl, Nat.le_of_ble_eq_true rfl⟩ ?_
    have e : (if Int32.ofNat (cLen.getD j 0) < nI (cN j) then Int32.ofNat (cLen.getD j 0) else nI (cN j)) = nI (cN j) := by
      show (if nI (cN j) < nI (cN j) then nI (cN j) else nI (cN j)) = _
      split <;> rfl
    rw [e]
    refine wq_istore_n (ls' := [_, _, _, _]) q311_21 rfl ?_
    refine wq_iload_n q311_22 rfl ?_
    refine wq_iload_n q311_23 rfl ?_
    refine wq_icmp_lt q311_24 (fun c24 => ?_) (fun c24 => ?_)
    · refine wq_aload_n q311_29 rfl ?_
      refine wq_iload_n q311_30 rfl ?_
      refine wq_iload_n q311_31 rfl ?_
      refine wq_iload_n q311_32 rfl ?_
      refine cS' (As := [_, _, _, _]) q311_33 m_312 rfl rfl rfl (c_indexOfChar hj hb ?_)
      refine rI q311_36 rfl ?_
      exact hQ
    · exact absurd (nI_lt (a := 0) h0 (by omega)) c24
  · exact absurd c4 (by decide)
theorem c_indexOf2 {b : Nat} (hj : j < 6) (hb : b < 256) (hQ : Q (some (.int (liO j (nI b)))) h) : Ct G (0, 0) (d + 2) 304 [.ref (1000 + (20 + j)), .int (nI b), .int 0] h Q := by
  refine Ct_of (ls := [_, _, _]) m_304.1.2.2.1 (Nat.le_of_ble_eq_true rfl) rfl ?_
  refine wq_aload_n q304_0 rfl ?_
  refine cT (As := []) q304_1 m_306 rfl rfl (by omega) rfl (c_isLatin1 (by omega) ?_)
  refine wq_if_eq q304_4 (fun c4 => ?_) (fun c4 => ?_)
  · exact absurd c4 (by decide)
  · refine wq_aload_n q304_7 rfl ?_
    refine wq_strv q304_8 (by omega) ?_
    refine wq_iload_n q304_11 rfl ?_
    refine wq_iload_n q304_12 rfl ?_
    refine wq_aload_n q304_13 rfl ?_
    refine cT (As := []) q304_14 m_301 rfl rfl (by omega) rfl (c_length hj ?_)
    refine cS' (As := [_, _, _, _]) q304_17 m_311 rfl rfl rfl (c_lindexOf hj hb ?_)
    refine wq_goto q304_20 ?_
    refine rI q304_36 rfl ?_
    exact hQ
theorem c_indexOf {b : Nat} (hj : j < 6) (hb : b < 256) (hQ : Q (some (.int (liO j (nI b)))) h) : Ct G (0, 0) (d + 3) 303 [.ref (1000 + (20 + j)), .int (nI b)] h Q := by
  refine Ct_of (ls := [_, _]) m_303.1.2.2.1 (Nat.le_of_ble_eq_true rfl) rfl ?_
  refine wq_aload_n q303_0 rfl ?_
  refine wq_iload_n q303_1 rfl ?_
  refine wq_iconst q303_2 ?_
  refine cT (As := [_, _]) q303_3 m_304 rfl rfl (by omega) rfl (c_indexOf2 hj hb ?_)
  refine rI q303_6 rfl ?_
  exact hQ
/-- the reference's spotOf and isAmong -/
theorem c_spotOf_loop {x : Int32} (hj : j < 6) : ∀ (m i : Nat), i + m = cN j → Q (some (.int (ioR j x m i))) h →
    wq G (0, 0) (d + 4) 195 2 [some (.ref (1000 + (20 + j))), some (.int x), some (.int (nI i))] [] (0, 0) h Q := by
  have h6 := cN_lt j hj
  intro m
  induction m with
  | zero =>
    intro i hm hQ
    refine wq_iload_n q195_2 rfl ?_
    refine wq_aload_n q195_3 rfl ?_
    refine cT (As := []) q195_4 m_301 rfl rfl (by omega) rfl (c_length hj ?_)
    refine wq_icmp_ge q195_7 (fun c7 => ?_) (fun c7 => ?_)
    · refine wq_iconst q195_27 ?_
      refine rI q195_28 rfl ?_
      exact hQ
    · rw [nI_leI (by omega) (by omega)] at c7
      omega
  | succ m ih =>
    intro i hm hQ
    rw [ioR] at hQ
    refine wq_iload_n q195_2 rfl ?_
    refine wq_aload_n q195_3 rfl ?_
    refine cT (As := []) q195_4 m_301 rfl rfl (by omega) rfl (c_length hj ?_)
    refine wq_icmp_ge q195_7 (fun c7 => ?_) (fun c7 => ?_)
    · rw [nI_leI (by omega) (by omega)] at c7
      omega
    · refine wq_aload_n q195_10 rfl ?_
      refine wq_iload_n q195_11 rfl ?_
      refine cT (As := [_]) q195_12 m_302 rfl rfl (by omega) rfl (c_charAt hj (by omega) ?_)
      refine wq_iload_n q195_15 rfl ?_
      refine wq_icmp_ne q195_16 (fun c16 => ?_) (fun c16 => ?_)
      · rw [if_neg c16] at hQ
        refine wq_iinc (ls' := [_, _, _]) q195_21 rfl rfl ?_
        refine wq_goto q195_24 ?_
        rw [nI_1]
        exact ih (i + 1) (by omega) hQ
      · rw [if_pos c16] at hQ
        refine wq_iload_n q195_19 rfl ?_
        refine rI q195_20 rfl ?_
        exact hQ
theorem c_spotOf {x : Int32} (hj : j < 6) (hQ : Q (some (.int (liO j x))) h) : Ct G (0, 0) (d + 4) 195 [.ref (1000 + (20 + j)), .int x] h Q := by
  refine Ct_of (ls := [_, _, _]) m_195.1.2.2.1 (Nat.le_of_ble_eq_true rfl) rfl ?_
  refine wq_iconst q195_0 ?_
  refine wq_istore_n (ls' := [_, _, _]) q195_1 rfl ?_
  exact c_spotOf_loop hj (cN j) 0 (by omega) hQ
theorem ioR_nm {x : Int32} (hj : j < 6) : ∀ (m i : Nat), i + m ≤ 6 → ioR j x m i = -1 ∨ ∃ k, k < i + m ∧ i ≤ k ∧ ioR j x m i = nI k ∧ cB j k = x := by
  intro m
  induction m with
  | zero => intro i _; exact Or.inl rfl
  | succ m ih =>
    intro i hm
    unfold ioR
    split
    · rename_i hc
      exact Or.inr ⟨i, by omega, by omega, rfl, hc⟩
    · rcases ih (i + 1) (by omega) with z | ⟨k, h1, h2, h3, h4⟩
      · exact Or.inl z
      · exact Or.inr ⟨k, by omega, by omega, h3, h4⟩
theorem liO_nm {x : Int32} (hj : j < 6) : liO j x = -1 ∨ ∃ k, k < cN j ∧ liO j x = nI k ∧ cB j k = x := by
  have h6 := cN_lt j hj
  rcases ioR_nm (x := x) hj (cN j) 0 (by omega) with z | ⟨k, h1, h2, h3, h4⟩
  · exact Or.inl z
  · exact Or.inr ⟨k, by omega, h3, h4⟩
theorem liO_m1 (hj : j < 6) : liO j (-1) = -1 := by
  have h6 := cN_lt j hj
  rcases liO_nm (x := -1) hj with z | ⟨k, h1, h2, h3⟩
  · exact z
  · have := (cB_ok j hj k (by omega)).1
    rw [h3] at this
    exact absurd this (by decide)
theorem c_isAmong_loop {x : Int32} (hj : j < 6) : ∀ (m i : Nat), i + m = cN j → Q (some (.int (if ioR j x m i = -1 then 0 else 1))) h →
    wq G (0, 0) (d + 4) 172 2 [some (.ref (1000 + (20 + j))), some (.int x), some (.int (nI i))] [] (0, 0) h Q := by
  have h6 := cN_lt j hj
  intro m
  induction m with
  | zero =>
    intro i hm hQ
    refine wq_iload_n q172_2 rfl ?_
    refine wq_aload_n q172_3 rfl ?_
    refine cT (As := []) q172_4 m_301 rfl rfl (by omega) rfl (c_length hj ?_)
    refine wq_icmp_ge q172_7 (fun c7 => ?_) (fun c7 => ?_)
    · refine wq_iconst q172_27 ?_
      refine rI q172_28 rfl ?_
      exact hQ
    · rw [nI_leI (by omega) (by omega)] at c7
      omega
  | succ m ih =>
    intro i hm hQ
    unfold ioR at hQ
    refine wq_iload_n q172_2 rfl ?_
    refine wq_aload_n q172_3 rfl ?_
    refine cT (As := []) q172_4 m_301 rfl rfl (by omega) rfl (c_length hj ?_)
    refine wq_icmp_ge q172_7 (fun c7 => ?_) (fun c7 => ?_)
    · rw [nI_leI (by omega) (by omega)] at c7
      omega
    · refine wq_aload_n q172_10 rfl ?_
      refine wq_iload_n q172_11 rfl ?_
      refine cT (As := [_]) q172_12 m_302 rfl rfl (by omega) rfl (c_charAt hj (by omega) ?_)
      refine wq_iload_n q172_15 rfl ?_
      refine wq_icmp_ne q172_16 (fun c16 => ?_) (fun c16 => ?_)
      · simp only [if_neg c16] at hQ
        refine wq_iinc (ls' := [_, _, _]) q172_21 rfl rfl ?_
        refine wq_goto q172_24 ?_
        rw [nI_1]
        exact ih (i + 1) (by omega) hQ
      · simp only [if_pos c16] at hQ
        rw [if_neg (nI_nm1 (by omega))] at hQ
        refine wq_iconst q172_19 ?_
        refine rI q172_20 rfl ?_
        exact hQ
theorem c_isAmong {x : Int32} (hj : j < 6) (hQ : Q (some (.int (if liO j x = -1 then 0 else 1))) h) : Ct G (0, 0) (d + 4) 172 [.ref (1000 + (20 + j)), .int x] h Q := by
  refine Ct_of (ls := [_, _, _]) m_172.1.2.2.1 (Nat.le_of_ble_eq_true rfl) rfl ?_
  refine wq_iconst q172_0 ?_
  refine wq_istore_n (ls' := [_, _, _]) q172_1 rfl ?_
  exact c_isAmong_loop hj (cN j) 0 (by omega) hQ
end STRINGS
/-! more of the tape -/
/-- the bytes of a tape -/
def TpB (b : Nat → Int32) (L : Nat) : Prop := ∀ p, p < L → ∃ x, 1 ≤ x ∧ x < 256 ∧ b p = nI x
theorem tpHere_b {b : Nat → Int32} {L p : Nat} {w : Int32} (hb : TpB b L) : tpHere b L p w = -1 ∨ ∃ x, 1 ≤ x ∧ x < 256 ∧ tpHere b L p w = nI x ∧ w = -1 ∧ p < L := by
  unfold tpHere
  split
  · split
    · rename_i h1 h2
      obtain ⟨x, h3, h4, h5⟩ := hb p h2
      exact Or.inr ⟨x, h3, h4, h5, h1, h2⟩
    · exact Or.inl rfl
  · exact Or.inl rfl
section TAPE2
variable {G : ph_G} {d f dr t L p : Nat} {hi : Nat → Nat → Int32} {hl : Nat → Nat → Int64} {w : Int32} {Q : Option Value → ph_H → Prop}
theorem c_letterOf {j : Nat} (hj : j < 6) (hL : hi 1 1 = nI L) (hLm : L ≤ 240) (hb : TpB (hi 2) L) (hp : p ≤ L) (hQ : Q (some (.int (liO j (tpHere (hi 2) L (tpSkip (hi 2) L p) w)))) (HP (tpS hi (tpSkip (hi 2) L p) w) hl f dr t)) : Ct G (0, 0) (d + 4) 76 [.ref 1, .ref (1000 + (20 + j))] (HP (tpS hi p w) hl f dr t) Q := by
  refine Ct_of (ls := [_, _, _]) m_76.1.2.2.1 (Nat.le_of_ble_eq_true rfl) rfl ?_
  refine wq_aload_n q76_0 rfl ?_
  refine cV (As := []) q76_1 m_69 rfl rfl rfl ⟨by decide, rfl⟩ rfl (c_next hL hLm hp ?_)
  refine wq_istore_n (ls' := [_, _, _]) q76_4 rfl ?_
  refine wq_iload_n q76_5 rfl ?_
  refine wq_iconst q76_6 ?_
  refine wq_icmp_ne q76_7 (fun c7 => ?_) (fun c7 => ?_)
  · rcases tpHere_b (p := tpSkip (hi 2) L p) (w := w) hb with z | ⟨x, h1, h2, h3, -⟩
    · exact absurd z c7
    · rw [h3] at hQ ⊢
      refine wq_aload_n q76_14 rfl ?_
      refine wq_iload_n q76_15 rfl ?_
      refine wq_i2c q76_16 ?_
      rw [i2c_ok x h2]
      refine cT (As := [_]) q76_17 m_303 rfl rfl (by omega) rfl (c_indexOf hj h2 ?_)
      refine rI q76_20 rfl ?_
      exact hQ
  · rw [c7, liO_m1 hj] at hQ
    refine wq_iconst q76_10 ?_
    refine wq_goto q76_11 ?_
    refine rI q76_20 rfl ?_
    exact hQ
theorem c_number_end2 {b : Nat → Int32} {lo hi' v x1 : Int32} {r : Nat} (hb : hi 2 = b) (hr : r ≤ 10)
    (hQ : Q (some (.int v)) (HP (tpS hi p (tpNe b L w lo hi' (v, r, p)).2.2) hl f dr t)) : wq G (0, 0) (d + 1) 78 55 [some (.ref 1), some (.int x1), some (.int lo), some (.int hi'), some (.int (tpHere b L p w)), some (.int v), some (.int (nI r))] [] (0, 0) (HP (tpS hi p w) hl f dr t) Q := by
  have e2 : hI (HP (tpS hi p w) hl f dr t) 1 2 = nI p := rfl
  unfold tpNe at hQ
  dsimp only at hQ
  have bad : r = 0 ∨ isDg (tpHere b L p w) = true → wq G (0, 0) (d + 1) 78 68 [some (.ref 1), some (.int x1), some (.int lo), some (.int hi'), some (.int (tpHere b L p w)), some (.int v), some (.int (nI r))] [] (0, 0) (HP (tpS hi p w) hl f dr t) Q := by
    intro hc
    rw [if_pos hc] at hQ
    refine wq_aload_n q78_68 rfl ?_
    refine wq_aload_n q78_69 rfl ?_
    refine wq_getI q78_70 rfl rfl ?_
    rw [e2]
    refine cV (As := [_]) q78_73 m_75 rfl rfl rfl ⟨by decide, rfl⟩ rfl (c_failAt ?_)
    refine wq_goto q78_76 ?_
    refine wq_iload q78_101 rfl ?_
    refine rI q78_103 rfl ?_
    exact hQ
  refine wq_iload q78_55 rfl ?_
  refine wq_if_eq q78_57 (fun c57 => ?_) (fun c57 => ?_)
  · refine bad (Or.inl ?_)
    rcases Nat.eq_zero_or_pos r with z | z
    · exact z
    · exact absurd c57 (nI_ne0 z (by omega))
  · have hr0 : r ≠ 0 := fun z => by subst z; exact absurd rfl c57
    refine wq_iload q78_60 rfl ?_
    refine cS' (As := [_]) q78_62 m_79 rfl rfl rfl (c_isDg ?_)
    refine wq_if_eq q78_65 (fun c65 => ?_) (fun c65 => ?_)
    · by_cases hd : isDg (tpHere b L p w) = true
      · rw [if_pos hd] at c65
        exact absurd c65 (by decide)
      · rw [if_neg (by rintro (z | z); exact hr0 z; exact hd z)] at hQ
        have out : (v < lo ∨ hi' < v) → wq G (0, 0) (d + 1) 78 91 [some (.ref 1), some (.int x1), some (.int lo), some (.int hi'), some (.int (tpHere b L p w)), some (.int v), some (.int (nI r))] [] (0, 0) (HP (tpS hi p w) hl f dr t) Q := by
          intro hc
          rw [if_pos hc] at hQ
          refine wq_aload_n q78_91 rfl ?_
          refine wq_aload_n q78_92 rfl ?_
          refine wq_getI q78_93 rfl rfl ?_
          rw [e2]
          refine wq_iconst q78_96 ?_
          refine wq_isub q78_97 ?_
          refine cV (As := [_]) q78_98 m_75 rfl rfl rfl ⟨by decide, rfl⟩ rfl (c_failAt ?_)
          refine wq_iload q78_101 rfl ?_
          refine rI q78_103 rfl ?_
          exact hQ
        refine wq_iload q78_79 rfl ?_
        refine wq_iload_n q78_81 rfl ?_
        refine wq_icmp_lt q78_82 (fun c82 => ?_) (fun c82 => ?_)
        · exact out (Or.inl c82)
        · refine wq_iload q78_85 rfl ?_
          refine wq_iload_n q78_87 rfl ?_
          refine wq_icmp_le q78_88 (fun c88 => ?_) (fun c88 => ?_)
          · rw [if_neg (by rintro (z | z); exact c82 z; exact absurd z (Int32.not_lt.mpr c88))] at hQ
            refine wq_iload q78_101 rfl ?_
            refine rI q78_103 rfl ?_
            exact hQ
          · exact out (Or.inr (Int32.not_le.mp c88))
    · refine bad (Or.inr ?_)
      by_cases hd : isDg (tpHere b L p w) = true
      · exact hd
      · rw [if_neg hd] at c65
        exact absurd rfl c65
theorem c_number_loop {D : Nat} {lo hi' : Int32} (hL : hi 1 1 = nI L) (hLm : L ≤ 240) (hD : D ≤ 4) : ∀ (m r p : Nat) (v : Int32), p ≤ L → r + m = D →
    (∀ x, x = tpDg (hi 2) L w m v r p → Q (some (.int x.1)) (HP (tpS hi x.2.2 (tpNe (hi 2) L w lo hi' x).2.2) hl f dr t)) →
    wq G (0, 0) (d + 1) 78 12 [some (.ref 1), some (.int (nI D)), some (.int lo), some (.int hi'), some (.int (tpHere (hi 2) L p w)), some (.int v), some (.int (nI r))] [] (0, 0) (HP (tpS hi p w) hl f dr t) Q := by
  intro m
  induction m with
  | zero =>
    intro r p v hp hm hQ
    refine wq_iload q78_12 rfl ?_
    refine wq_iload_n q78_14 rfl ?_
    refine wq_icmp_ge q78_15 (fun c15 => ?_) (fun c15 => ?_)
    · exact c_number_end2 (b := hi 2) rfl (by omega) (hQ (v, r, p) rfl)
    · rw [nI_leI (by omega) (by omega)] at c15
      omega
  | succ m ih =>
    intro r p v hp hm hQ
    rw [tpDg] at hQ
    refine wq_iload q78_12 rfl ?_
    refine wq_iload_n q78_14 rfl ?_
    refine wq_icmp_ge q78_15 (fun c15 => ?_) (fun c15 => ?_)
    · rw [nI_leI (by omega) (by omega)] at c15
      omega
    · refine wq_iload q78_18 rfl ?_
      refine cS' (As := [_]) q78_20 m_79 rfl rfl rfl (c_isDg ?_)
      refine wq_if_eq q78_23 (fun c23 => ?_) (fun c23 => ?_)
      · by_cases hd : isDg (tpHere (hi 2) L p w) = true
        · rw [if_pos hd] at c23
          exact absurd c23 (by decide)
        · rw [if_neg hd] at hQ
          exact c_number_end2 (b := hi 2) rfl (by omega) (hQ (v, r, p) rfl)
      · by_cases hd : isDg (tpHere (hi 2) L p w) = true
        · rw [if_pos hd] at hQ
          refine wq_bipush q78_26 ?_
          refine wq_iload q78_28 rfl ?_
          refine wq_imul q78_30 ?_
          refine wq_iload q78_31 rfl ?_
          refine wq_iadd q78_33 ?_
          refine wq_bipush q78_34 ?_
          refine wq_isub q78_36 ?_
          refine wq_istore (ls' := [_, _, _, _, _, _, _]) q78_37 rfl ?_
          refine wq_iinc (ls' := [_, _, _, _, _, _, _]) q78_39 rfl rfl ?_
          refine wq_aload_n q78_42 rfl ?_
          refine cV (As := []) q78_43 m_70 rfl rfl rfl ⟨by decide, rfl⟩ rfl (c_pass hL hLm hp ?_)
          refine wq_aload_n q78_46 rfl ?_
          refine cV (As := []) q78_47 m_68 rfl rfl rfl ⟨by decide, rfl⟩ rfl (c_here hL hLm (tpPass_le hp) ?_)
          refine wq_istore (ls' := [_, _, _, _, _, _, _]) q78_50 rfl ?_
          refine wq_goto q78_52 ?_
          rw [nI_1]
          exact ih (r + 1) (tpPass L p) _ (tpPass_le hp) (by omega) hQ
        · rw [if_neg hd] at c23
          exact absurd rfl c23
theorem c_number {D : Nat} {lo hi' : Int32} (hL : hi 1 1 = nI L) (hLm : L ≤ 240) (hD : D ≤ 4) (hp : p ≤ L)
    (hQ : ∀ x, x = tpDg (hi 2) L w D 0 0 (tpSkip (hi 2) L p) → Q (some (.int x.1)) (HP (tpS hi x.2.2 (tpNe (hi 2) L w lo hi' x).2.2) hl f dr t)) : Ct G (0, 0) (d + 2) 78 [.ref 1, .int (nI D), .int lo, .int hi'] (HP (tpS hi p w) hl f dr t) Q := by
  refine Ct_of (ls := [_, _, _, _, _, _, _]) m_78.1.2.2.1 (Nat.le_of_ble_eq_true rfl) rfl ?_
  refine wq_aload_n q78_0 rfl ?_
  refine cV (As := []) q78_1 m_69 rfl rfl rfl ⟨by decide, rfl⟩ rfl (c_next hL hLm hp ?_)
  refine wq_istore (ls' := [_, _, _, _, _, _, _]) q78_4 rfl ?_
  refine wq_iconst q78_6 ?_
  refine wq_istore (ls' := [_, _, _, _, _, _, _]) q78_7 rfl ?_
  refine wq_iconst q78_9 ?_
  refine wq_istore (ls' := [_, _, _, _, _, _, _]) q78_10 rfl ?_
  exact c_number_loop hL hLm hD D 0 (tpSkip (hi 2) L p) 0 (tpSkip_le hp).2 (by omega) hQ
end TAPE2
