/-! SCENES, ACTS, DIARIES, WITNESSES: contracts over any heap that has such a cell -/
theorem stI_C (h : ph_H) (a i : Nat) (x : Int32) : stI h a i x = stC h a (va_up (hI h a) i x) := rfl
theorem hI_C (h : ph_H) (a : Nat) (f : Nat → Int32) : hI (stC h a f) a = f := by simp [stC, hI]
theorem hI_Co (h : ph_H) {a b : Nat} (f : Nat → Int32) (hb : b ≠ a) : hI (stC h a f) b = hI h b := by simp [stC, hI, hb]
theorem stC_C (h : ph_H) (a : Nat) (f g : Nat → Int32) : stC (stC h a f) a g = stC h a g := by
  unfold stC
  congr 3
  funext b
  by_cases hb : b = a <;> simp [hb]
theorem stC_self (h : ph_H) (a : Nat) {f : Nat → Int32} (hf : f = hI h a) : stC h a f = h := by
  subst hf
  obtain ⟨b, s, i, l, r⟩ := h
  unfold stC
  congr 3
  funext c
  by_cases hc : c = a <;> simp [hc]
/-- a scene at a, its row at r -/
def Scn (h : ph_H) (a r : Nat) : Prop := (hS h)[a]? = some (7, 1) ∧ hR h a 0 = some r ∧ (hS h)[r]? = some (100, 33) ∧ h.1 = false
theorem Scn.st {h : ph_H} {a r : Nat} (hs : Scn h a r) (b : Nat) (f : Nat → Int32) : Scn (stC h b f) a r := hs
section SCENE
variable {G : ph_G} {d a r n : Nat} {h : ph_H} {Q : Option Value → ph_H → Prop}
theorem c_fill_loop {v : Int32} (s1 : (hS h)[a]? = some (100, n)) (hn : n < 2 ^ 31) (s4 : h.1 = false) : ∀ (m j : Nat), j + m = n → Q none (stC h a (fun i => if i < n then v else hI h a i)) →
    wq G (0, 0) d 322 5 [some (.ref a), some (.int v), some (.int (nI j)), some (.int (nI n))] [] (0, 0) (stC h a (fun i => if i < j then v else hI h a i)) Q := by
  intro m
  induction m with
  | zero =>
    intro j hj hQ
    refine wq_iload_n q322_5 rfl ?_
    refine wq_iload_n q322_6 rfl ?_
    refine wq_icmp_ge q322_7 (fun c7 => ?_) (fun c7 => ?_)
    · refine rV q322_20 ?_
      have : j = n := by omega
      subst this
      exact hQ
    · rw [nI_leI (by omega) (by omega)] at c7
      omega
  | succ m ih =>
    intro j hj hQ
    refine wq_iload_n q322_5 rfl ?_
    refine wq_iload_n q322_6 rfl ?_
    refine wq_icmp_ge q322_7 (fun c7 => ?_) (fun c7 => ?_)
    · rw [nI_leI (by omega) (by omega)] at c7
      omega
    · refine wq_aload_n q322_10 rfl ?_
      refine wq_iload_n q322_11 rfl ?_
      refine wq_iload_n q322_12 rfl ?_
      refine sI q322_13 (by first | exact s1 | exact s4 | rfl) (rfl) (by omega) (by first | decide | omega) (by first | exact s1 | exact s4 | rfl) ?_
      refine wq_iinc (ls' := [_, _, _, _]) q322_14 rfl rfl ?_
      refine wq_goto q322_17 ?_
      rw [nI_1, stI_C, hI_C, stC_C]
      have e : va_up (fun i => if i < j then v else hI h a i) j v = fun i => if i < j + 1 then v else hI h a i := by
        funext i
        by_cases h1 : i = j
        · subst h1; simp [va_up]
        · simp only [va_up, if_neg h1]
          by_cases h2 : i < j
          · rw [if_pos h2, if_pos (by omega)]
          · rw [if_neg h2, if_neg (by omega)]
      rw [e]
      exact ih (j + 1) (by omega) hQ
theorem c_fill {v : Int32} (s1 : (hS h)[a]? = some (100, n)) (hn : n < 2 ^ 31) (s4 : h.1 = false) (hQ : Q none (stC h a (fun i => if i < n then v else hI h a i))) : Ct G (0, 0) d 322 [.ref a, .int v] h Q := by
  refine Ct_of (ls := [_, _, _, _]) m_322.1.2.2.1 (Nat.le_of_ble_eq_true rfl) rfl ?_
  refine wq_iconst q322_0 ?_
  refine wq_istore_n (ls' := [_, _, _, _]) q322_1 rfl ?_
  refine wq_aload_n q322_2 rfl ?_
  refine wq_alen q322_3 (by first | exact s1 | exact s4 | rfl) (by omega) ?_
  refine wq_istore_n (ls' := [_, _, _, _]) q322_4 rfl ?_
  have := c_fill_loop (G := G) (d := d) (v := v) s1 hn s4 n 0 (by omega) hQ
  rw [stC_self h a (f := fun i => if i < 0 then v else hI h a i) (by funext i; simp)] at this
  exact this
/-- Integer.bitCount -/
def bc1 (x : Int32) : Int32 := x - ((x.toUInt32 >>> ((1 : Int32).toUInt32 &&& Int32.toUInt32 31)).toInt32 &&& 1431655765)
def bc2 (x : Int32) : Int32 := (x &&& 858993459) + ((x.toUInt32 >>> ((2 : Int32).toUInt32 &&& Int32.toUInt32 31)).toInt32 &&& 858993459)
def bc3 (x : Int32) : Int32 := (x + (x.toUInt32 >>> ((4 : Int32).toUInt32 &&& Int32.toUInt32 31)).toInt32) &&& 252645135
def bc4 (x : Int32) : Int32 := x + (x.toUInt32 >>> ((8 : Int32).toUInt32 &&& Int32.toUInt32 31)).toInt32
def bc5 (x : Int32) : Int32 := x + (x.toUInt32 >>> ((16 : Int32).toUInt32 &&& Int32.toUInt32 31)).toInt32
def bc (x : Int32) : Int32 := bc5 (bc4 (bc3 (bc2 (bc1 x)))) &&& 63
theorem c_bitCount {x : Int32} (hQ : Q (some (.int (bc x))) h) : Ct G (0, 0) d 295 [.int x] h Q := by
  refine Ct_of (ls := [_]) m_295.1.2.2.1 (Nat.le_of_ble_eq_true rfl) rfl ?_
  refine wq_iload_n q295_0 rfl ?_
  refine wq_iload_n q295_1 rfl ?_
  refine wq_iconst q295_2 ?_
  refine wq_iushr q295_3 ?_
  refine wq_ldc_w q295_4 ?_
  refine wq_iand q295_7 ?_
  refine wq_isub q295_8 ?_
  refine wq_istore_n (ls' := [_]) q295_9 rfl ?_
  refine wq_iload_n q295_10 rfl ?_
  refine wq_ldc_w q295_11 ?_
  refine wq_iand q295_14 ?_
  refine wq_iload_n q295_15 rfl ?_
  refine wq_iconst q295_16 ?_
  refine wq_iushr q295_17 ?_
  refine wq_ldc_w q295_18 ?_
  refine wq_iand q295_21 ?_
  refine wq_iadd q295_22 ?_
  refine wq_istore_n (ls' := [_]) q295_23 rfl ?_
  refine wq_iload_n q295_24 rfl ?_
  refine wq_iload_n q295_25 rfl ?_
  refine wq_iconst q295_26 ?_
  refine wq_iushr q295_27 ?_
  refine wq_iadd q295_28 ?_
  refine wq_ldc_w q295_29 ?_
  refine wq_iand q295_32 ?_
  refine wq_istore_n (ls' := [_]) q295_33 rfl ?_
  refine wq_iload_n q295_34 rfl ?_
  refine wq_iload_n q295_35 rfl ?_
  refine wq_bipush q295_36 ?_
  refine wq_iushr q295_38 ?_
  refine wq_iadd q295_39 ?_
  refine wq_istore_n (ls' := [_]) q295_40 rfl ?_
  refine wq_iload_n q295_41 rfl ?_
  refine wq_iload_n q295_42 rfl ?_
  refine wq_bipush q295_43 ?_
  refine wq_iushr q295_45 ?_
  refine wq_iadd q295_46 ?_
  refine wq_istore_n (ls' := [_]) q295_47 rfl ?_
  refine wq_iload_n q295_48 rfl ?_
  refine wq_bipush q295_49 ?_
  refine wq_iand q295_51 ?_
  refine rI q295_52 rfl ?_
  exact hQ
theorem c_sees {e : Int32} (hs : Scn h a r) (hQ : Q (some (.int (if ((hI h r 28) >>> (e &&& 31)) &&& 1 = 1 then 1 else 0))) h) : Ct G (0, 0) d 56 [.ref a, .int e] h Q := by
  obtain ⟨s1, s2, s3, s4⟩ := hs
  refine Ct_of (ls := [_, _]) m_56.1.2.2.1 (Nat.le_of_ble_eq_true rfl) rfl ?_
  refine wq_aload_n q56_0 rfl ?_
  refine wq_getR q56_1 (by first | exact s1 | exact s2 | exact s3 | exact s4 | rfl) rfl (by first | exact s1 | exact s2 | exact s3 | exact s4 | rfl) ?_
  refine wq_bipush q56_4 ?_
  refine aI q56_6 (by first | exact s1 | exact s2 | exact s3 | exact s4 | rfl) (rfl) (by decide) (by first | decide | omega) ?_
  refine wq_iload_n q56_7 rfl ?_
  refine wq_ishr q56_8 ?_
  refine wq_iconst q56_9 ?_
  refine wq_iand q56_10 ?_
  refine wq_iconst q56_11 ?_
  refine wq_icmp_ne q56_12 (fun c12 => ?_) (fun c12 => ?_)
  · refine wq_iconst q56_19 ?_
    refine rI q56_20 rfl ?_
    rw [if_neg c12] at hQ
    exact hQ
  · refine wq_iconst q56_15 ?_
    refine wq_goto q56_16 ?_
    refine rI q56_20 rfl ?_
    rw [if_pos c12] at hQ
    exact hQ
/-- in which cell one sits: the first that fits, or the last -/
def ceOf (row : Nat → Int32) (p : Int32) : Nat → Nat → Nat
  | 0, c => c
  | m + 1, c => if row c = p then c else ceOf row p m (c + 1)
theorem ceOf_le {row : Nat → Int32} {p : Int32} : ∀ (m c : Nat), ceOf row p m c ≤ c + m
  | 0, c => Nat.le_refl _
  | m + 1, c => by
    unfold ceOf
    split
    · omega
    · have := ceOf_le (row := row) (p := p) m (c + 1)
      omega
theorem c_cellOf_loop {p : Int32} (hs : Scn h a r) (hn : n ≤ 7) : ∀ (m c : Nat), c + m + 1 = n → Q (some (.int (nI (ceOf (hI h r) p m c)))) h →
    wq G (0, 0) d 57 2 [some (.ref a), some (.int p), some (.int (nI n)), some (.int (nI c))] [] (0, 0) h Q := by
  obtain ⟨s1, s2, s3, s4⟩ := hs
  intro m
  induction m with
  | zero =>
    intro c hc hQ
    have e : nI n - 1 = nI c := by rw [← hc]; exact nI_pred c
    refine wq_iload_n q57_2 rfl ?_
    refine wq_iload_n q57_3 rfl ?_
    refine wq_iconst q57_4 ?_
    refine wq_isub q57_5 ?_
    refine wq_icmp_ge q57_6 (fun c6 => ?_) (fun c6 => ?_)
    · refine wq_iload_n q57_27 rfl ?_
      refine rI q57_28 rfl ?_
      exact hQ
    · rw [e, nI_leI (by omega) (by omega)] at c6
      omega
  | succ m ih =>
    intro c hc hQ
    have e : nI n - 1 = nI (n - 1) := by rw [show n = n - 1 + 1 by omega]; exact nI_pred (n - 1)
    refine wq_iload_n q57_2 rfl ?_
    refine wq_iload_n q57_3 rfl ?_
    refine wq_iconst q57_4 ?_
    refine wq_isub q57_5 ?_
    refine wq_icmp_ge q57_6 (fun c6 => ?_) (fun c6 => ?_)
    · rw [e, nI_leI (by omega) (by omega)] at c6
      omega
    · refine wq_aload_n q57_9 rfl ?_
      refine wq_getR q57_10 (by first | exact s1 | exact s2 | exact s3 | exact s4 | rfl) rfl (by first | exact s1 | exact s2 | exact s3 | exact s4 | rfl) ?_
      refine wq_iconst q57_13 ?_
      refine wq_iload_n q57_14 rfl ?_
      refine wq_iadd q57_15 ?_
      refine aI q57_16 (by first | exact s1 | exact s2 | exact s3 | exact s4 | rfl) ((by rw [show (0 : Int32) = nI 0 from rfl, nI_add, Nat.zero_add])) (by omega) (by first | decide | omega) ?_
      refine wq_iload_n q57_17 rfl ?_
      refine wq_icmp_eq q57_18 (fun c18 => ?_) (fun c18 => ?_)
      · rw [ceOf, if_pos c18] at hQ
        refine wq_iload_n q57_27 rfl ?_
        refine rI q57_28 rfl ?_
        exact hQ
      · rw [ceOf, if_neg c18] at hQ
        refine wq_iinc (ls' := [_, _, _, _]) q57_21 rfl rfl ?_
        refine wq_goto q57_24 ?_
        rw [nI_1]
        exact ih (c + 1) (by omega) hQ
theorem c_cellOf {p : Int32} (hs : Scn h a r) (hn : n ≤ 7) (hn0 : 1 ≤ n) (hQ : Q (some (.int (nI (ceOf (hI h r) p (n - 1) 0)))) h) : Ct G (0, 0) d 57 [.ref a, .int p, .int (nI n)] h Q := by
  refine Ct_of (ls := [_, _, _, _]) m_57.1.2.2.1 (Nat.le_of_ble_eq_true rfl) rfl ?_
  refine wq_iconst q57_0 ?_
  refine wq_istore_n (ls' := [_, _, _, _]) q57_1 rfl ?_
  exact c_cellOf_loop hs hn (n - 1) 0 (by omega) hQ
/-- two change cells -/
def swR (row : Nat → Int32) (n : Nat) (p q : Int32) : Nat → Int32 := va_up (va_up row (ceOf row p (n - 1) 0) q) (ceOf row q (n - 1) 0) p
theorem c_swapCells {p q : Int32} (hs : Scn h a r) (hn : n ≤ 7) (hn0 : 1 ≤ n) (hQ : Q none (stC h r (swR (hI h r) n p q))) : Ct G (0, 0) (d + 1) 58 [.ref a, .int p, .int q, .int (nI n)] h Q := by
  have hs' := hs
  obtain ⟨s1, s2, s3, s4⟩ := hs
  have l1 := ceOf_le (row := hI h r) (p := p) (n - 1) 0
  have l2 := ceOf_le (row := hI h r) (p := q) (n - 1) 0
  refine Ct_of (ls := [_, _, _, _, _, _]) m_58.1.2.2.1 (Nat.le_of_ble_eq_true rfl) rfl ?_
  refine wq_aload_n q58_0 rfl ?_
  refine wq_iload_n q58_1 rfl ?_
  refine wq_iload_n q58_2 rfl ?_
  refine cV (As := [_, _]) q58_3 m_57 rfl rfl (by first | exact s1 | exact s2 | exact s3 | exact s4 | rfl) ⟨by decide, rfl⟩ rfl (c_cellOf hs' hn hn0 ?_)
  refine wq_istore (ls' := [_, _, _, _, _, _]) q58_6 rfl ?_
  refine wq_aload_n q58_8 rfl ?_
  refine wq_iload_n q58_9 rfl ?_
  refine wq_iload_n q58_10 rfl ?_
  refine cV (As := [_, _]) q58_11 m_57 rfl rfl (by first | exact s1 | exact s2 | exact s3 | exact s4 | rfl) ⟨by decide, rfl⟩ rfl (c_cellOf hs' hn hn0 ?_)
  refine wq_istore (ls' := [_, _, _, _, _, _]) q58_14 rfl ?_
  refine wq_aload_n q58_16 rfl ?_
  refine wq_getR q58_17 (by first | exact s1 | exact s2 | exact s3 | exact s4 | rfl) rfl (by first | exact s1 | exact s2 | exact s3 | exact s4 | rfl) ?_
  refine wq_iconst q58_20 ?_
  refine wq_iload q58_21 rfl ?_
  refine wq_iadd q58_23 ?_
  refine wq_iload_n q58_24 rfl ?_
  refine sI q58_25 (by first | exact s1 | exact s2 | exact s3 | exact s4 | rfl) ((by rw [show (0 : Int32) = nI 0 from rfl, nI_add, Nat.zero_add])) (by omega) (by first | decide | omega) (by first | exact s1 | exact s2 | exact s3 | exact s4 | rfl) ?_
  refine wq_aload_n q58_26 rfl ?_
  refine wq_getR q58_27 (by first | exact s1 | exact s2 | exact s3 | exact s4 | rfl) rfl (by first | exact s1 | exact s2 | exact s3 | exact s4 | rfl) ?_
  refine wq_iconst q58_30 ?_
  refine wq_iload q58_31 rfl ?_
  refine wq_iadd q58_33 ?_
  refine wq_iload_n q58_34 rfl ?_
  refine sI q58_35 (by first | exact s1 | exact s2 | exact s3 | exact s4 | rfl) ((by rw [show (0 : Int32) = nI 0 from rfl, nI_add, Nat.zero_add])) (by omega) (by first | decide | omega) (by first | exact s1 | exact s2 | exact s3 | exact s4 | rfl) ?_
  refine rV q58_36 ?_
  rw [stI_C, stI_C, hI_C, stC_C]
  exact hQ
/-- the first with the most bread -/
def riR (b : Nat → Int32) : Nat → Nat → Nat → Nat
  | 0, _, f => f
  | m + 1, p, f => riR b m (p + 1) (if b f < b p then p else f)
theorem riR_lt {b : Nat → Int32} : ∀ (m p f : Nat), f < p + m ∨ f = 0 → 0 < p + m → riR b m p f < p + m ∨ riR b m p f = 0 := by
  intro m
  induction m with
  | zero => intro p f h _; exact h
  | succ m ih =>
    intro p f h hp
    unfold riR
    have := ih (p + 1) (if b f < b p then p else f) (by split <;> omega) (by omega)
    omega
theorem c_richest_loop (hs : Scn h a r) (hn : n ≤ 7) : ∀ (m p f : Nat), p + m = n ∨ (m = 0 ∧ n ≤ p ∧ p ≤ 7) → f < 7 → Q (some (.int (nI (riR (fun i => hI h r (7 + i)) m p f)))) h →
    wq G (0, 0) d 59 4 [some (.ref a), some (.int (nI n)), some (.int (nI f)), some (.int (nI p))] [] (0, 0) h Q := by
  obtain ⟨s1, s2, s3, s4⟩ := hs
  intro m
  induction m with
  | zero =>
    intro p f hp hf hQ
    refine wq_iload_n q59_4 rfl ?_
    refine wq_iload_n q59_5 rfl ?_
    refine wq_icmp_ge q59_6 (fun c6 => ?_) (fun c6 => ?_)
    · refine wq_iload_n q59_38 rfl ?_
      refine rI q59_39 rfl ?_
      exact hQ
    · rw [nI_leI (by omega) (by omega)] at c6
      omega
  | succ m ih =>
    intro p f hp hf hQ
    rw [riR] at hQ
    refine wq_iload_n q59_4 rfl ?_
    refine wq_iload_n q59_5 rfl ?_
    refine wq_icmp_ge q59_6 (fun c6 => ?_) (fun c6 => ?_)
    · rw [nI_leI (by omega) (by omega)] at c6
      omega
    · refine wq_aload_n q59_9 rfl ?_
      refine wq_getR q59_10 (by first | exact s1 | exact s2 | exact s3 | exact s4 | rfl) rfl (by first | exact s1 | exact s2 | exact s3 | exact s4 | rfl) ?_
      refine wq_bipush q59_13 ?_
      refine wq_iload_n q59_15 rfl ?_
      refine wq_iadd q59_16 ?_
      refine aI q59_17 (by first | exact s1 | exact s2 | exact s3 | exact s4 | rfl) (nI_add 7 _) (by omega) (by first | decide | omega) ?_
      refine wq_aload_n q59_18 rfl ?_
      refine wq_getR q59_19 (by first | exact s1 | exact s2 | exact s3 | exact s4 | rfl) rfl (by first | exact s1 | exact s2 | exact s3 | exact s4 | rfl) ?_
      refine wq_bipush q59_22 ?_
      refine wq_iload_n q59_24 rfl ?_
      refine wq_iadd q59_25 ?_
      refine aI q59_26 (by first | exact s1 | exact s2 | exact s3 | exact s4 | rfl) (nI_add 7 _) (by omega) (by first | decide | omega) ?_
      refine wq_icmp_le q59_27 (fun c27 => ?_) (fun c27 => ?_)
      · rw [if_neg (Int32.not_lt.mpr c27)] at hQ
        refine wq_iinc (ls' := [_, _, _, _]) q59_32 rfl rfl ?_
        refine wq_goto q59_35 ?_
        rw [nI_1]
        exact ih (p + 1) f (by omega) hf hQ
      · rw [if_pos (Int32.not_le.mp c27)] at hQ
        refine wq_iload_n q59_30 rfl ?_
        refine wq_istore_n (ls' := [_, _, _, _]) q59_31 rfl ?_
        refine wq_iinc (ls' := [_, _, _, _]) q59_32 rfl rfl ?_
        refine wq_goto q59_35 ?_
        rw [nI_1]
        exact ih (p + 1) p (by omega) (by omega) hQ
theorem c_richest (hs : Scn h a r) (hn : n ≤ 7) (hQ : Q (some (.int (nI (riR (fun i => hI h r (7 + i)) (n - 1) 1 0)))) h) : Ct G (0, 0) d 59 [.ref a, .int (nI n)] h Q := by
  refine Ct_of (ls := [_, _, _, _]) m_59.1.2.2.1 (Nat.le_of_ble_eq_true rfl) rfl ?_
  refine wq_iconst q59_0 ?_
  refine wq_istore_n (ls' := [_, _, _, _]) q59_1 rfl ?_
  refine wq_iconst q59_2 ?_
  refine wq_istore_n (ls' := [_, _, _, _]) q59_3 rfl ?_
  exact c_richest_loop hs hn (n - 1) 1 0 (by omega) (by omega) hQ
def suR (b : Nat → Int32) : Nat → Nat → Int32 → Int32
  | 0, _, s => s
  | m + 1, p, s => suR b m (p + 1) (s + b p)
theorem c_breadOfAll_loop (hs : Scn h a r) (hn : n ≤ 7) : ∀ (m p : Nat) (x : Int32), p + m = n → Q (some (.int (suR (fun i => hI h r (7 + i)) m p x))) h →
    wq G (0, 0) d 60 4 [some (.ref a), some (.int (nI n)), some (.int x), some (.int (nI p))] [] (0, 0) h Q := by
  obtain ⟨s1, s2, s3, s4⟩ := hs
  intro m
  induction m with
  | zero =>
    intro p x hp hQ
    refine wq_iload_n q60_4 rfl ?_
    refine wq_iload_n q60_5 rfl ?_
    refine wq_icmp_ge q60_6 (fun c6 => ?_) (fun c6 => ?_)
    · refine wq_iload_n q60_27 rfl ?_
      refine rI q60_28 rfl ?_
      exact hQ
    · rw [nI_leI (by omega) (by omega)] at c6
      omega
  | succ m ih =>
    intro p x hp hQ
    refine wq_iload_n q60_4 rfl ?_
    refine wq_iload_n q60_5 rfl ?_
    refine wq_icmp_ge q60_6 (fun c6 => ?_) (fun c6 => ?_)
    · rw [nI_leI (by omega) (by omega)] at c6
      omega
    · refine wq_iload_n q60_9 rfl ?_
      refine wq_aload_n q60_10 rfl ?_
      refine wq_getR q60_11 (by first | exact s1 | exact s2 | exact s3 | exact s4 | rfl) rfl (by first | exact s1 | exact s2 | exact s3 | exact s4 | rfl) ?_
      refine wq_bipush q60_14 ?_
      refine wq_iload_n q60_16 rfl ?_
      refine wq_iadd q60_17 ?_
      refine aI q60_18 (by first | exact s1 | exact s2 | exact s3 | exact s4 | rfl) (nI_add 7 _) (by omega) (by first | decide | omega) ?_
      refine wq_iadd q60_19 ?_
      refine wq_istore_n (ls' := [_, _, _, _]) q60_20 rfl ?_
      refine wq_iinc (ls' := [_, _, _, _]) q60_21 rfl rfl ?_
      refine wq_goto q60_24 ?_
      rw [nI_1]
      exact ih (p + 1) _ (by omega) hQ
theorem c_breadOfAll (hs : Scn h a r) (hn : n ≤ 7) (hQ : Q (some (.int (suR (fun i => hI h r (7 + i)) n 0 0))) h) : Ct G (0, 0) d 60 [.ref a, .int (nI n)] h Q := by
  refine Ct_of (ls := [_, _, _, _]) m_60.1.2.2.1 (Nat.le_of_ble_eq_true rfl) rfl ?_
  refine wq_iconst q60_0 ?_
  refine wq_istore_n (ls' := [_, _, _, _]) q60_1 rfl ?_
  refine wq_iconst q60_2 ?_
  refine wq_istore_n (ls' := [_, _, _, _]) q60_3 rfl ?_
  exact c_breadOfAll_loop hs hn n 0 0 (by omega) hQ
def payR (row : Nat → Int32) (p q : Nat) (c : Int32) : Nat → Int32 := if row (7 + p) < c then row else va_up (va_up row (7 + p) (row (7 + p) - c)) (7 + q) (va_up row (7 + p) (row (7 + p) - c) (7 + q) + c)
theorem c_pay {p q : Nat} {c : Int32} (hs : Scn h a r) (hp : p < 7) (hq : q < 7) (hQ : Q none (stC h r (payR (hI h r) p q c))) : Ct G (0, 0) d 61 [.ref a, .int (nI p), .int (nI q), .int c] h Q := by
  obtain ⟨s1, s2, s3, s4⟩ := hs
  refine Ct_of (ls := [_, _, _, _]) m_61.1.2.2.1 (Nat.le_of_ble_eq_true rfl) rfl ?_
  refine wq_aload_n q61_0 rfl ?_
  refine wq_getR q61_1 (by first | exact s1 | exact s2 | exact s3 | exact s4 | rfl) rfl (by first | exact s1 | exact s2 | exact s3 | exact s4 | rfl) ?_
  refine wq_bipush q61_4 ?_
  refine wq_iload_n q61_6 rfl ?_
  refine wq_iadd q61_7 ?_
  refine aI q61_8 (by first | exact s1 | exact s2 | exact s3 | exact s4 | rfl) (nI_add 7 _) (by omega) (by first | decide | omega) ?_
  refine wq_iload_n q61_9 rfl ?_
  refine wq_icmp_lt q61_10 (fun c10 => ?_) (fun c10 => ?_)
  · refine rV q61_39 ?_
    rw [payR, if_pos c10, stC_self _ _ rfl] at hQ
    exact hQ
  · refine wq_aload_n q61_13 rfl ?_
    refine wq_getR q61_14 (by first | exact s1 | exact s2 | exact s3 | exact s4 | rfl) rfl (by first | exact s1 | exact s2 | exact s3 | exact s4 | rfl) ?_
    refine wq_bipush q61_17 ?_
    refine wq_iload_n q61_19 rfl ?_
    refine wq_iadd q61_20 ?_
    refine wq_dup2 q61_21 rfl rfl ?_
    refine aI q61_22 (by first | exact s1 | exact s2 | exact s3 | exact s4 | rfl) (nI_add 7 _) (by omega) (by first | decide | omega) ?_
    refine wq_iload_n q61_23 rfl ?_
    refine wq_isub q61_24 ?_
    refine sI q61_25 (by first | exact s1 | exact s2 | exact s3 | exact s4 | rfl) (nI_add 7 _) (by omega) (by first | decide | omega) (by first | exact s1 | exact s2 | exact s3 | exact s4 | rfl) ?_
    refine wq_aload_n q61_26 rfl ?_
    refine wq_getR q61_27 (by first | exact s1 | exact s2 | exact s3 | exact s4 | rfl) rfl (by first | exact s1 | exact s2 | exact s3 | exact s4 | rfl) ?_
    refine wq_bipush q61_30 ?_
    refine wq_iload_n q61_32 rfl ?_
    refine wq_iadd q61_33 ?_
    refine wq_dup2 q61_34 rfl rfl ?_
    refine aI q61_35 (by first | exact s1 | exact s2 | exact s3 | exact s4 | rfl) (nI_add 7 _) (by omega) (by first | decide | omega) ?_
    refine wq_iload_n q61_36 rfl ?_
    refine wq_iadd q61_37 ?_
    refine sI q61_38 (by first | exact s1 | exact s2 | exact s3 | exact s4 | rfl) (nI_add 7 _) (by omega) (by first | decide | omega) (by first | exact s1 | exact s2 | exact s3 | exact s4 | rfl) ?_
    refine rV q61_39 ?_
    rw [payR, if_neg c10] at hQ
    rw [stI_C, stI_C, hI_C, stC_C]
    exact hQ
end SCENE
