/-! THE TAPE of the class: contracts -/
theorem vu_s {α : Type} (f : Nat → α) (k : Nat) (v : α) : va_up f k v k = v := if_pos rfl
theorem vu_o {α : Type} (f : Nat → α) {k j : Nat} (v : α) (h : j ≠ k) : va_up f k v j = f j := if_neg h
theorem vu_uu {α : Type} (f : Nat → α) (k : Nat) (v w : α) : va_up (va_up f k v) k w = va_up f k w := by
  funext j; by_cases h : j = k <;> simp [va_up, h]
theorem vu_self {α : Type} (f : Nat → α) (k : Nat) {v : α} (h : f k = v) : va_up f k v = f := by
  funext j; by_cases hj : j = k
  · subst hj; simp [va_up, h]
  · simp [va_up, hj]
theorem vu_comm {α : Type} (f : Nat → α) {j k : Nat} (v w : α) (h : j ≠ k) : va_up (va_up f j v) k w = va_up (va_up f k w) j v := by
  funext i; by_cases h1 : i = j <;> by_cases h2 : i = k <;> simp [va_up, h1, h2]
  · omega
  · intro z; omega
  · intro z; omega
theorem up2_uu {α : Type} (f : Nat → Nat → α) (a i : Nat) (v w : α) : up2 (up2 f a i v) a i w = up2 f a i w := by
  funext b; by_cases h : b = a <;> simp [up2, h, vu_uu]
theorem up2_self {α : Type} (f : Nat → Nat → α) (a i : Nat) {v : α} (h : f a i = v) : up2 f a i v = f := by
  funext b; by_cases hb : b = a
  · subst hb; simp [up2, vu_self _ _ h]
  · simp [up2, hb]
theorem up2_comm {α : Type} (f : Nat → Nat → α) {a b i j : Nat} (v w : α) (h : a ≠ b ∨ i ≠ j) : up2 (up2 f a i v) b j w = up2 (up2 f b j w) a i v := by
  funext c
  by_cases h1 : c = a
  · subst h1
    by_cases h2 : c = b
    · subst h2
      have : i ≠ j := h.resolve_left (fun z => z rfl)
      simp only [up2, if_pos]
      exact vu_comm _ _ _ this
    · simp only [up2, if_pos, if_neg h2]
  · by_cases h2 : c = b
    · subst h2
      simp only [up2, if_pos, if_neg h1]
    · simp only [up2, if_neg h1, if_neg h2]
theorem hpS (hi : Nat → Nat → Int32) (hl : Nat → Nat → Int64) (f dr t a i : Nat) (x : Int32) : stI (HP hi hl f dr t) a i x = HP (up2 hi a i x) hl f dr t := rfl
/-- the tape with a reader at p, and what it found wrong -/
def tpS (hi : Nat → Nat → Int32) (p : Nat) (w : Int32) : Nat → Nat → Int32 := up2 (up2 hi 1 2 (nI p)) 1 3 w
theorem tpS_p (hi : Nat → Nat → Int32) (p p' : Nat) (w : Int32) : up2 (tpS hi p w) 1 2 (nI p') = tpS hi p' w := by
  unfold tpS
  rw [up2_comm _ _ _ (Or.inr (by decide)), up2_uu]
theorem tpS_w (hi : Nat → Nat → Int32) (p : Nat) (w w' : Int32) : up2 (tpS hi p w) 1 3 w' = tpS hi p w' := by
  unfold tpS
  rw [up2_uu]
theorem tpS_o (hi : Nat → Nat → Int32) (p : Nat) (w : Int32) {a : Nat} (h : a ≠ 1) : tpS hi p w a = hi a := by
  unfold tpS
  rw [up2_o _ _ _ h, up2_o _ _ _ h]
def tpHere (b : Nat → Int32) (L p : Nat) (w : Int32) : Int32 := if w = -1 then (if p < L then b p else -1) else -1
def tpSk (b : Nat → Int32) (L : Nat) : Nat → Nat → Nat
  | 0, p => p
  | n + 1, p => if p < L ∧ b p = 32 then tpSk b L n (p + 1) else p
def tpSkip (b : Nat → Int32) (L p : Nat) : Nat := tpSk b L (L - p) p
theorem tpSk_le {b : Nat → Int32} {L : Nat} : ∀ (n p : Nat), p ≤ L → p ≤ tpSk b L n p ∧ tpSk b L n p ≤ L
  | 0, p, h => ⟨Nat.le_refl _, h⟩
  | n + 1, p, h => by
    unfold tpSk
    split
    · rename_i hc
      have := tpSk_le (b := b) (L := L) n (p + 1) (by omega)
      omega
    · omega
theorem tpSkip_le {b : Nat → Int32} {L p : Nat} (h : p ≤ L) : p ≤ tpSkip b L p ∧ tpSkip b L p ≤ L := tpSk_le _ _ h
section TAPE
variable {G : ph_G} {d f dr t L p : Nat} {hi : Nat → Nat → Int32} {hl : Nat → Nat → Int64} {w : Int32} {Q : Option Value → ph_H → Prop}
theorem c_isDigit {x : Int32} {h : ph_H} (hQ : Q (some (.int (if 48 ≤ x ∧ x ≤ 57 then 1 else 0))) h) : Ct G (0, 0) d 79 [.int x] h Q := by
  refine Ct_of (ls := [_]) m_79.1.2.2.1 (Nat.le_of_ble_eq_true rfl) rfl ?_
  refine wq_iload_n q79_0 rfl ?_
  refine wq_bipush q79_1 ?_
  refine wq_icmp_lt q79_3 (fun c3 => ?_) (fun c3 => ?_)
  · refine wq_iconst q79_16 ?_
    refine rI q79_17 rfl ?_
    rw [if_neg (fun z => absurd z.1 (Int32.not_le.mpr c3))] at hQ
    exact hQ
  · refine wq_iload_n q79_6 rfl ?_
    refine wq_bipush q79_7 ?_
    refine wq_icmp_gt q79_9 (fun c9 => ?_) (fun c9 => ?_)
    · refine wq_iconst q79_16 ?_
      refine rI q79_17 rfl ?_
      rw [if_neg (fun z => absurd z.2 (Int32.not_le.mpr c9))] at hQ
      exact hQ
    · refine wq_iconst q79_12 ?_
      refine wq_goto q79_13 ?_
      refine rI q79_17 rfl ?_
      rw [if_pos ⟨Int32.not_lt.mp c3, Int32.not_lt.mp c9⟩] at hQ
      exact hQ
theorem c_here (hL : hi 1 1 = nI L) (hLm : L ≤ 240) (hp : p ≤ L) (hQ : Q (some (.int (tpHere (hi 2) L p w))) (HP (tpS hi p w) hl f dr t)) : Ct G (0, 0) d 68 [.ref 1] (HP (tpS hi p w) hl f dr t) Q := by
  refine Ct_of (ls := [_]) m_68.1.2.2.1 (Nat.le_of_ble_eq_true rfl) rfl ?_
  have e1 : hI (HP (tpS hi p w) hl f dr t) 1 1 = nI L := hL
  have e2 : hI (HP (tpS hi p w) hl f dr t) 1 2 = nI p := rfl
  have e3 : hI (HP (tpS hi p w) hl f dr t) 1 3 = w := rfl
  have e4 : hI (HP (tpS hi p w) hl f dr t) 2 p = hi 2 p := rfl
  refine wq_aload_n q68_0 rfl ?_
  refine wq_getI q68_1 rfl rfl ?_
  refine wq_iconst q68_4 ?_
  refine wq_icmp_ne q68_5 (fun c5 => ?_) (fun c5 => ?_)
  · refine wq_iconst q68_31 ?_
    refine rI q68_32 rfl ?_
    rw [e3] at c5
    rw [tpHere, if_neg c5] at hQ
    exact hQ
  · refine wq_aload_n q68_8 rfl ?_
    refine wq_getI q68_9 rfl rfl ?_
    refine wq_aload_n q68_12 rfl ?_
    refine wq_getI q68_13 rfl rfl ?_
    refine wq_icmp_ge q68_16 (fun c16 => ?_) (fun c16 => ?_)
    · refine wq_iconst q68_31 ?_
      refine rI q68_32 rfl ?_
      rw [e3] at c5
      rw [e1, e2, nI_leI (by omega) (by omega)] at c16
      rw [tpHere, if_pos c5, if_neg (by omega)] at hQ
      exact hQ
    · rw [e1, e2, nI_leI (by omega) (by omega)] at c16
      refine wq_aload_n q68_19 rfl ?_
      refine wq_getR q68_20 rfl rfl rfl ?_
      refine wq_aload_n q68_23 rfl ?_
      refine wq_getI q68_24 rfl rfl ?_
      refine aI q68_27 rfl (e2) (by omega) (by first | decide | omega) ?_
      refine wq_goto q68_28 ?_
      refine rI q68_32 rfl ?_
      rw [e3] at c5
      rw [tpHere, if_pos c5, if_pos (by omega)] at hQ
      exact hQ
theorem c_next_loop (hL : hi 1 1 = nI L) (hLm : L ≤ 240) : ∀ (n p : Nat), p ≤ L → L - p ≤ n → Q (some (.int (tpHere (hi 2) L (tpSk (hi 2) L n p) w))) (HP (tpS hi (tpSk (hi 2) L n p) w) hl f dr t) → wq G (0, 0) (d + 1) 69 0 [some (.ref 1)] [] (0, 0) (HP (tpS hi p w) hl f dr t) Q := by
  intro n
  induction n with
  | zero =>
    intro p hp hn hQ
    have e1 : hI (HP (tpS hi p w) hl f dr t) 1 1 = nI L := hL
    have e2 : hI (HP (tpS hi p w) hl f dr t) 1 2 = nI p := rfl
    refine wq_aload_n q69_0 rfl ?_
    refine wq_getI q69_1 rfl rfl ?_
    refine wq_aload_n q69_4 rfl ?_
    refine wq_getI q69_5 rfl rfl ?_
    refine wq_icmp_ge q69_8 (fun c8 => ?_) (fun c8 => ?_)
    · refine wq_aload_n q69_38 rfl ?_
      refine cV (As := []) q69_39 m_68 rfl rfl rfl ⟨by decide, rfl⟩ rfl (c_here hL hLm hp ?_)
      refine rI q69_42 rfl ?_
      exact hQ
    · rw [e1, e2, nI_leI (by omega) (by omega)] at c8
      omega
  | succ n ih =>
    intro p hp hn hQ
    have e1 : hI (HP (tpS hi p w) hl f dr t) 1 1 = nI L := hL
    have e2 : hI (HP (tpS hi p w) hl f dr t) 1 2 = nI p := rfl
    have e4 : hI (HP (tpS hi p w) hl f dr t) 2 p = hi 2 p := rfl
    refine wq_aload_n q69_0 rfl ?_
    refine wq_getI q69_1 rfl rfl ?_
    refine wq_aload_n q69_4 rfl ?_
    refine wq_getI q69_5 rfl rfl ?_
    refine wq_icmp_ge q69_8 (fun c8 => ?_) (fun c8 => ?_)
    · rw [e1, e2, nI_leI (by omega) (by omega)] at c8
      have e : tpSk (hi 2) L (n + 1) p = p := by rw [tpSk, if_neg (by omega)]
      rw [e] at hQ
      refine wq_aload_n q69_38 rfl ?_
      refine cV (As := []) q69_39 m_68 rfl rfl rfl ⟨by decide, rfl⟩ rfl (c_here hL hLm hp ?_)
      refine rI q69_42 rfl ?_
      exact hQ
    · rw [e1, e2, nI_leI (by omega) (by omega)] at c8
      refine wq_aload_n q69_11 rfl ?_
      refine wq_getR q69_12 rfl rfl rfl ?_
      refine wq_aload_n q69_15 rfl ?_
      refine wq_getI q69_16 rfl rfl ?_
      refine aI q69_19 rfl (e2) (by omega) (by first | decide | omega) ?_
      refine wq_bipush q69_20 ?_
      refine wq_icmp_ne q69_22 (fun c22 => ?_) (fun c22 => ?_)
      · have e : tpSk (hi 2) L (n + 1) p = p := by rw [tpSk, if_neg (fun z => c22 z.2)]
        rw [e] at hQ
        refine wq_aload_n q69_38 rfl ?_
        refine cV (As := []) q69_39 m_68 rfl rfl rfl ⟨by decide, rfl⟩ rfl (c_here hL hLm hp ?_)
        refine rI q69_42 rfl ?_
        exact hQ
      · have e : tpSk (hi 2) L (n + 1) p = tpSk (hi 2) L n (p + 1) := by rw [tpSk, if_pos ⟨by omega, c22⟩]
        rw [e] at hQ
        refine wq_aload_n q69_25 rfl ?_
        refine wq_dup q69_26 rfl ?_
        refine wq_getI q69_27 rfl rfl ?_
        refine wq_iconst q69_30 ?_
        refine wq_iadd q69_31 ?_
        refine wq_putI q69_32 rfl rfl rfl rfl ?_
        refine wq_goto q69_35 ?_
        rw [e2, nI_1, hpS, tpS_p]
        exact ih (p + 1) (by omega) (by omega) hQ
theorem c_next (hL : hi 1 1 = nI L) (hLm : L ≤ 240) (hp : p ≤ L) (hQ : Q (some (.int (tpHere (hi 2) L (tpSkip (hi 2) L p) w))) (HP (tpS hi (tpSkip (hi 2) L p) w) hl f dr t)) : Ct G (0, 0) (d + 1) 69 [.ref 1] (HP (tpS hi p w) hl f dr t) Q := by
  refine Ct_of (ls := [_]) m_69.1.2.2.1 (Nat.le_of_ble_eq_true rfl) rfl ?_
  exact c_next_loop hL hLm (L - p) p hp (Nat.le_refl _) hQ
def tpPass (L p : Nat) : Nat := if p < L then p + 1 else p
theorem c_pass (hL : hi 1 1 = nI L) (hLm : L ≤ 240) (hp : p ≤ L) (hQ : Q none (HP (tpS hi (tpPass L p) w) hl f dr t)) : Ct G (0, 0) d 70 [.ref 1] (HP (tpS hi p w) hl f dr t) Q := by
  refine Ct_of (ls := [_]) m_70.1.2.2.1 (Nat.le_of_ble_eq_true rfl) rfl ?_
  have e1 : hI (HP (tpS hi p w) hl f dr t) 1 1 = nI L := hL
  have e2 : hI (HP (tpS hi p w) hl f dr t) 1 2 = nI p := rfl
  refine wq_aload_n q70_0 rfl ?_
  refine wq_getI q70_1 rfl rfl ?_
  refine wq_aload_n q70_4 rfl ?_
  refine wq_getI q70_5 rfl rfl ?_
  refine wq_icmp_ge q70_8 (fun c8 => ?_) (fun c8 => ?_)
  · rw [e1, e2, nI_leI (by omega) (by omega)] at c8
    rw [tpPass, if_neg (by omega)] at hQ
    refine rV q70_21 ?_
    exact hQ
  · rw [e1, e2, nI_leI (by omega) (by omega)] at c8
    rw [tpPass, if_pos (by omega)] at hQ
    refine wq_aload_n q70_11 rfl ?_
    refine wq_dup q70_12 rfl ?_
    refine wq_getI q70_13 rfl rfl ?_
    refine wq_iconst q70_16 ?_
    refine wq_iadd q70_17 ?_
    refine wq_putI q70_18 rfl rfl rfl rfl ?_
    refine rV q70_21 ?_
    rw [e2, nI_1, hpS, tpS_p]
    exact hQ
theorem c_failAt {x : Int32} (hQ : Q none (HP (tpS hi p (if w = -1 then x else w)) hl f dr t)) : Ct G (0, 0) d 75 [.ref 1, .int x] (HP (tpS hi p w) hl f dr t) Q := by
  refine Ct_of (ls := [_, _]) m_75.1.2.2.1 (Nat.le_of_ble_eq_true rfl) rfl ?_
  have e3 : hI (HP (tpS hi p w) hl f dr t) 1 3 = w := rfl
  refine wq_aload_n q75_0 rfl ?_
  refine wq_getI q75_1 rfl rfl ?_
  refine wq_iconst q75_4 ?_
  refine wq_icmp_ne q75_5 (fun c5 => ?_) (fun c5 => ?_)
  · refine rV q75_13 ?_
    rw [e3] at c5
    rw [if_neg c5] at hQ
    exact hQ
  · refine wq_aload_n q75_8 rfl ?_
    refine wq_iload_n q75_9 rfl ?_
    refine wq_putI q75_10 rfl rfl rfl rfl ?_
    refine rV q75_13 ?_
    rw [e3] at c5
    rw [if_pos c5] at hQ
    rw [hpS, tpS_w]
    exact hQ
theorem c_takes {x : Int32} (hL : hi 1 1 = nI L) (hLm : L ≤ 240) (hp : p ≤ L)
    (hQ : Q (some (.int (if tpHere (hi 2) L (tpSkip (hi 2) L p) w = x then 1 else 0))) (HP (tpS hi (if tpHere (hi 2) L (tpSkip (hi 2) L p) w = x then tpPass L (tpSkip (hi 2) L p) else tpSkip (hi 2) L p) w) hl f dr t)) : Ct G (0, 0) (d + 2) 71 [.ref 1, .int x] (HP (tpS hi p w) hl f dr t) Q := by
  refine Ct_of (ls := [_, _]) m_71.1.2.2.1 (Nat.le_of_ble_eq_true rfl) rfl ?_
  refine wq_aload_n q71_0 rfl ?_
  refine cV (As := []) q71_1 m_69 rfl rfl rfl ⟨by decide, rfl⟩ rfl (c_next hL hLm hp ?_)
  refine wq_iload_n q71_4 rfl ?_
  refine wq_icmp_eq q71_5 (fun c5 => ?_) (fun c5 => ?_)
  · rw [if_pos c5, if_pos c5] at hQ
    refine wq_aload_n q71_10 rfl ?_
    refine cV (As := []) q71_11 m_70 rfl rfl rfl ⟨by decide, rfl⟩ rfl (c_pass hL hLm (tpSkip_le hp).2 ?_)
    refine wq_iconst q71_14 ?_
    refine rI q71_15 rfl ?_
    exact hQ
  · rw [if_neg c5, if_neg c5] at hQ
    refine wq_iconst q71_8 ?_
    refine rI q71_9 rfl ?_
    exact hQ
/-- where a fault is noted: the first one stays -/
def tpF (w : Int32) (q : Nat) : Int32 := if w = -1 then nI q else w
theorem c_expect {x : Int32} (hL : hi 1 1 = nI L) (hLm : L ≤ 240) (hp : p ≤ L)
    (hQ : ∀ p' w', (p', w') = (if tpHere (hi 2) L (tpSkip (hi 2) L p) w = x then (tpPass L (tpSkip (hi 2) L p), w) else (tpSkip (hi 2) L p, tpF w (tpSkip (hi 2) L p))) → Q none (HP (tpS hi p' w') hl f dr t)) : Ct G (0, 0) (d + 3) 72 [.ref 1, .int x] (HP (tpS hi p w) hl f dr t) Q := by
  refine Ct_of (ls := [_, _]) m_72.1.2.2.1 (Nat.le_of_ble_eq_true rfl) rfl ?_
  refine wq_aload_n q72_0 rfl ?_
  refine wq_iload_n q72_1 rfl ?_
  refine cV (As := [_]) q72_2 m_71 rfl rfl rfl ⟨by decide, rfl⟩ rfl (c_takes hL hLm hp ?_)
  refine wq_if_ne q72_5 (fun c5 => ?_) (fun c5 => ?_)
  · by_cases hc : tpHere (hi 2) L (tpSkip (hi 2) L p) w = x
    · rw [if_pos hc]
      refine rV q72_16 ?_
      exact hQ _ _ (by rw [if_pos hc])
    · rw [if_neg hc] at c5
      exact absurd rfl c5
  · by_cases hc : tpHere (hi 2) L (tpSkip (hi 2) L p) w = x
    · rw [if_pos hc] at c5
      exact absurd c5 (by decide)
    · rw [if_neg hc]
      refine wq_aload_n q72_8 rfl ?_
      refine wq_aload_n q72_9 rfl ?_
      refine wq_getI q72_10 rfl rfl ?_
      refine cV (As := [_]) q72_13 m_75 rfl rfl rfl ⟨by decide, rfl⟩ rfl (c_failAt ?_)
      refine rV q72_16 ?_
      exact hQ _ _ (by rw [if_neg hc]; rfl)
theorem c_expectEnd (hL : hi 1 1 = nI L) (hLm : L ≤ 240) (hp : p ≤ L)
    (hQ : Q none (HP (tpS hi (tpSkip (hi 2) L p) (if tpHere (hi 2) L (tpSkip (hi 2) L p) w = -1 then w else tpF w (tpSkip (hi 2) L p))) hl f dr t)) : Ct G (0, 0) (d + 2) 73 [.ref 1] (HP (tpS hi p w) hl f dr t) Q := by
  refine Ct_of (ls := [_]) m_73.1.2.2.1 (Nat.le_of_ble_eq_true rfl) rfl ?_
  refine wq_aload_n q73_0 rfl ?_
  refine cV (As := []) q73_1 m_69 rfl rfl rfl ⟨by decide, rfl⟩ rfl (c_next hL hLm hp ?_)
  refine wq_iconst q73_4 ?_
  refine wq_icmp_eq q73_5 (fun c5 => ?_) (fun c5 => ?_)
  · rw [if_pos c5] at hQ
    refine rV q73_16 ?_
    exact hQ
  · rw [if_neg c5] at hQ
    refine wq_aload_n q73_8 rfl ?_
    refine wq_aload_n q73_9 rfl ?_
    refine wq_getI q73_10 rfl rfl ?_
    refine cV (As := [_]) q73_13 m_75 rfl rfl rfl ⟨by decide, rfl⟩ rfl (c_failAt ?_)
    refine rV q73_16 ?_
    exact hQ
theorem c_fail (hL : hi 1 1 = nI L) (hLm : L ≤ 240) (hp : p ≤ L) (hQ : Q none (HP (tpS hi (tpSkip (hi 2) L p) (tpF w (tpSkip (hi 2) L p))) hl f dr t)) : Ct G (0, 0) (d + 2) 74 [.ref 1] (HP (tpS hi p w) hl f dr t) Q := by
  refine Ct_of (ls := [_]) m_74.1.2.2.1 (Nat.le_of_ble_eq_true rfl) rfl ?_
  refine wq_aload_n q74_0 rfl ?_
  refine cV (As := []) q74_1 m_69 rfl rfl rfl ⟨by decide, rfl⟩ rfl (c_next hL hLm hp ?_)
  refine wq_pop q74_4 rfl ?_
  refine wq_aload_n q74_5 rfl ?_
  refine wq_aload_n q74_6 rfl ?_
  refine wq_getI q74_7 rfl rfl ?_
  refine cV (As := [_]) q74_10 m_75 rfl rfl rfl ⟨by decide, rfl⟩ rfl (c_failAt ?_)
  refine rV q74_13 ?_
  exact hQ
def isDg (x : Int32) : Bool := decide (48 ≤ x ∧ x ≤ 57)
theorem c_isDg {x : Int32} {h : ph_H} (hQ : Q (some (.int (if isDg x = true then 1 else 0))) h) : Ct G (0, 0) d 79 [.int x] h Q := by
  refine c_isDigit ?_
  simp only [isDg, decide_eq_true_eq] at hQ
  exact hQ
theorem c_digit (hL : hi 1 1 = nI L) (hLm : L ≤ 240) (hp : p ≤ L)
    (hQ : ∀ r p' w', (r, p', w') = (if isDg (tpHere (hi 2) L (tpSkip (hi 2) L p) w) = true then (tpHere (hi 2) L (tpSkip (hi 2) L p) w - 48, tpPass L (tpSkip (hi 2) L p), w) else ((0 : Int32), tpSkip (hi 2) L p, tpF w (tpSkip (hi 2) L p))) → Q (some (.int r)) (HP (tpS hi p' w') hl f dr t)) : Ct G (0, 0) (d + 2) 77 [.ref 1] (HP (tpS hi p w) hl f dr t) Q := by
  refine Ct_of (ls := [_, _]) m_77.1.2.2.1 (Nat.le_of_ble_eq_true rfl) rfl ?_
  refine wq_aload_n q77_0 rfl ?_
  refine cV (As := []) q77_1 m_69 rfl rfl rfl ⟨by decide, rfl⟩ rfl (c_next hL hLm hp ?_)
  refine wq_istore_n (ls' := [_, _]) q77_4 rfl ?_
  refine wq_iload_n q77_5 rfl ?_
  refine cS' (As := [_]) q77_6 m_79 rfl rfl rfl (c_isDg ?_)
  refine wq_if_ne q77_9 (fun c9 => ?_) (fun c9 => ?_)
  · by_cases hc : isDg (tpHere (hi 2) L (tpSkip (hi 2) L p) w) = true
    · refine wq_aload_n q77_22 rfl ?_
      refine cV (As := []) q77_23 m_70 rfl rfl rfl ⟨by decide, rfl⟩ rfl (c_pass hL hLm (tpSkip_le hp).2 ?_)
      refine wq_iload_n q77_26 rfl ?_
      refine wq_bipush q77_27 ?_
      refine wq_isub q77_29 ?_
      refine rI q77_30 rfl ?_
      exact hQ _ _ _ (by rw [if_pos hc])
    · rw [if_neg hc] at c9
      exact absurd rfl c9
  · by_cases hc : isDg (tpHere (hi 2) L (tpSkip (hi 2) L p) w) = true
    · rw [if_pos hc] at c9
      exact absurd c9 (by decide)
    · refine wq_aload_n q77_12 rfl ?_
      refine wq_aload_n q77_13 rfl ?_
      refine wq_getI q77_14 rfl rfl ?_
      refine cV (As := [_]) q77_17 m_75 rfl rfl rfl ⟨by decide, rfl⟩ rfl (c_failAt ?_)
      refine wq_iconst q77_20 ?_
      refine rI q77_21 rfl ?_
      exact hQ _ _ _ (by rw [if_neg hc]; rfl)
/-- the digits of a number: value, how many, where -/
def tpDg (b : Nat → Int32) (L : Nat) (w : Int32) : Nat → Int32 → Nat → Nat → Int32 × Nat × Nat
  | 0, v, r, p => (v, r, p)
  | n + 1, v, r, p => if isDg (tpHere b L p w) = true then tpDg b L w n (10 * v + tpHere b L p w - 48) (r + 1) (tpPass L p) else (v, r, p)
theorem tpPass_le {L p : Nat} (h : p ≤ L) : tpPass L p ≤ L := by unfold tpPass; split <;> omega
theorem tpDg_le {b : Nat → Int32} {L : Nat} {w : Int32} : ∀ (n : Nat) (v : Int32) (r p : Nat), p ≤ L → (tpDg b L w n v r p).2.2 ≤ L ∧ (tpDg b L w n v r p).2.1 ≤ r + n
  | 0, v, r, p, h => ⟨h, Nat.le_refl _⟩
  | n + 1, v, r, p, h => by
    unfold tpDg
    split
    · have := tpDg_le (b := b) (L := L) (w := w) n (10 * v + tpHere b L p w - 48) (r + 1) (tpPass L p) (tpPass_le h)
      omega
    · exact ⟨h, Nat.le_add_right _ _⟩
/-- the end of a number -/
def tpNe (b : Nat → Int32) (L : Nat) (w : Int32) (lo hi' : Int32) (x : Int32 × Nat × Nat) : Int32 × Nat × Int32 :=
  (x.1, x.2.2, if x.2.1 = 0 ∨ isDg (tpHere b L x.2.2 w) = true then tpF w x.2.2 else if x.1 < lo ∨ hi' < x.1 then (if w = -1 then nI x.2.2 - 1 else w) else w)
end TAPE
