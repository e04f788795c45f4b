/-! THE REFERENCE'S ROWS, held against the class's -/
theorem hIH (hi : Nat → Nat → Int32) (hl : Nat → Nat → Int64) (f dr t : Nat) : hI (HP hi hl f dr t) = hi := rfl
/-- a row of the class and a row of the reference tell the same (but for who knows what) -/
def RW (n : Nat) (row w : Nat → Int32) : Prop := (∀ c, c < n → ∃ p, p < n ∧ row c = nI p ∧ w (4 * p) = nI c) ∧ (∀ p, p < n → ∃ c, c < n ∧ w (4 * p) = nI c ∧ row c = nI p) ∧ (∀ p, p < n → w (4 * p + 1) = row (7 + p)) ∧ (∀ p, p < n → w (4 * p + 3) = row (14 + p)) ∧ w 28 = row 28 ∧ w 29 = row 30 ∧ w 30 = row 31 ∧ w 31 = row 29 ∧ w 32 = row 32
/-- who knows what -/
def KN (n : Nat) (row w : Nat → Int32) : Prop := ∀ p, p < n → w (4 * p + 2) = row (21 + p)
/-- two change cells, in the reference -/
def chW (w : Nat → Int32) (a b : Nat) : Nat → Int32 := va_up (va_up w (4 * a) (w (4 * b))) (4 * b) (w (4 * a))
theorem ceOf_first {row : Nat → Int32} {p : Int32} : ∀ (m c c0 : Nat), c ≤ c0 → c0 ≤ c + m → row c0 = p → (∀ j, c ≤ j → j < c0 → ¬ row j = p) → ceOf row p m c = c0 := by
  intro m
  induction m with
  | zero =>
    intro c c0 h1 h2 _ _
    rw [ceOf]
    omega
  | succ m ih =>
    intro c c0 h1 h2 h3 h4
    rw [ceOf]
    by_cases h : row c = p
    · rw [if_pos h]
      by_cases hc : c = c0
      · exact hc
      · exact absurd h (h4 c (Nat.le_refl _) (by omega))
    · rw [if_neg h]
      have : c ≠ c0 := fun z => h (by rw [z]; exact h3)
      exact ih (c + 1) c0 (by omega) (by omega) h3 (fun j hj => h4 j (by omega))
section RWS
variable {n : Nat} {row w : Nat → Int32}
theorem RW.sit (h : RW n row w) (hn : n ≤ 7) : Sit row n := fun c hc => by
  obtain ⟨p, hp, e, -⟩ := h.1 c hc
  exact ⟨p, by omega, e⟩
theorem RW.cell (h : RW n row w) (hn : n ≤ 7) {c p : Nat} (hc : c < n) (hp : p < n) (e : row c = nI p) : w (4 * p) = nI c := by
  obtain ⟨p', hp', e1, e2⟩ := h.1 c hc
  have : p' = p := (nI_eq (by omega) (by omega)).mp (e1.symm.trans e)
  subst this
  exact e2
theorem RW.pris (h : RW n row w) (hn : n ≤ 7) {c p : Nat} (hc : c < n) (hp : p < n) (e : w (4 * p) = nI c) : row c = nI p := by
  obtain ⟨c', hc', e1, e2⟩ := h.2.1 p hp
  have : c' = c := (nI_eq (by omega) (by omega)).mp (e1.symm.trans e)
  subst this
  exact e2
theorem RW.s (h : RW n row w) (hn : n ≤ 7) {c : Nat} (hc : c < n) : sOf row c < n ∧ row c = nI (sOf row c) ∧ w (4 * sOf row c) = nI c := by
  obtain ⟨p, hp, e1, e2⟩ := h.1 c hc
  have : sOf row c = p := by unfold sOf; rw [e1]; exact nI_clamp (by omega)
  rw [this]
  exact ⟨hp, e1, e2⟩
theorem RW.ce (h : RW n row w) (hn : n ≤ 7) {a c : Nat} (hc : c < n) (ha : a < n) (e : row c = nI a) : ceOf row (nI a) (n - 1) 0 = c := by
  refine ceOf_first _ _ _ (by omega) (by omega) e (fun j _ hj z => ?_)
  have h1 := h.cell hn hc ha e
  have h2 := h.cell hn (by omega) ha z
  have := (nI_eq (by omega) (by omega)).mp (h1.symm.trans h2)
  omega
theorem chW_o {a b j : Nat} (h1 : j ≠ 4 * a) (h2 : j ≠ 4 * b) : chW w a b j = w j := by unfold chW; rw [vu_o _ _ h2, vu_o _ _ h1]
theorem swR_at (h : RW n row w) (hn : n ≤ 7) {a b ca cb : Nat} (ha : a < n) (hb : b < n) (hca : ca < n) (hcb : cb < n) (e2 : row ca = nI a) (f2 : row cb = nI b) : swR row n (nI a) (nI b) = va_up (va_up row ca (nI b)) cb (nI a) := by
  unfold swR
  rw [h.ce hn hca ha e2, h.ce hn hcb hb f2]
theorem RW.sw (h : RW n row w) (hn : n ≤ 7) {a b : Nat} (ha : a < n) (hb : b < n) : RW n (swR row n (nI a) (nI b)) (chW w a b) := by
  obtain ⟨ca, hca, e1, e2⟩ := h.2.1 a ha
  obtain ⟨cb, hcb, f1, f2⟩ := h.2.1 b hb
  have hs := swR_at h hn ha hb hca hcb e2 f2
  have hlo : ∀ j, 7 ≤ j → swR row n (nI a) (nI b) j = row j := fun j hj => by rw [hs, vu_o _ _ (by omega), vu_o _ _ (by omega)]
  have hab : ca = cb → a = b := fun z => by subst z; exact (nI_eq (by omega) (by omega)).mp (e2.symm.trans f2)
  have hba : a = b → ca = cb := fun z => by subst z; exact (nI_eq (by omega) (by omega)).mp (e1.symm.trans f1)
  have hwb : chW w a b (4 * b) = nI ca := by unfold chW; rw [vu_s, e1]
  have hwa : chW w a b (4 * a) = nI cb := by
    by_cases z : a = b
    · have := hba z
      subst z
      rw [hwb, this]
    · unfold chW
      rw [vu_o _ _ (by omega), vu_s, f1]
  have hrb : swR row n (nI a) (nI b) cb = nI a := by rw [hs, vu_s]
  have hra : swR row n (nI a) (nI b) ca = nI b := by
    by_cases z : ca = cb
    · have := hab z
      subst this
      rw [z, hrb]
    · rw [hs, vu_o _ _ z, vu_s]
  obtain ⟨g1, g2, g3, g4, g5, g6, g7, g8, g9⟩ := h
  have h : RW n row w := ⟨g1, g2, g3, g4, g5, g6, g7, g8, g9⟩
  refine ⟨fun c hc => ?_, fun p hp => ?_, fun p hp => ?_, fun p hp => ?_, ?_, ?_, ?_, ?_, ?_⟩
  · by_cases z : c = cb
    · subst z
      exact ⟨a, ha, hrb, hwa⟩
    · by_cases z2 : c = ca
      · subst z2
        exact ⟨b, hb, hra, hwb⟩
      · obtain ⟨p, hp, k1, k2⟩ := g1 c hc
        refine ⟨p, hp, by rw [hs, vu_o _ _ z, vu_o _ _ z2]; exact k1, ?_⟩
        have p1 : p ≠ a := by
          rintro rfl
          exact z2 ((nI_eq (by omega) (by omega)).mp (k2.symm.trans e1))
        have p2 : p ≠ b := by
          rintro rfl
          exact z ((nI_eq (by omega) (by omega)).mp (k2.symm.trans f1))
        rw [chW_o (by omega) (by omega)]
        exact k2
  · by_cases z : p = b
    · subst z
      exact ⟨ca, hca, hwb, hra⟩
    · by_cases z2 : p = a
      · subst z2
        exact ⟨cb, hcb, hwa, hrb⟩
      · obtain ⟨c, hc, k1, k2⟩ := g2 p hp
        refine ⟨c, hc, by rw [chW_o (by omega) (by omega)]; exact k1, ?_⟩
        have p1 : c ≠ ca := by
          rintro rfl
          exact z2 ((nI_eq (by omega) (by omega)).mp (k2.symm.trans e2))
        have p2 : c ≠ cb := by
          rintro rfl
          exact z ((nI_eq (by omega) (by omega)).mp (k2.symm.trans f2))
        rw [hs, vu_o _ _ p2, vu_o _ _ p1]
        exact k2
  · rw [chW_o (by omega) (by omega), hlo _ (by omega)]
    exact g3 p hp
  · rw [chW_o (by omega) (by omega), hlo _ (by omega)]
    exact g4 p hp
  · rw [chW_o (by omega) (by omega), hlo _ (by omega)]
    exact g5
  · rw [chW_o (by omega) (by omega), hlo _ (by omega)]
    exact g6
  · rw [chW_o (by omega) (by omega), hlo _ (by omega)]
    exact g7
  · rw [chW_o (by omega) (by omega), hlo _ (by omega)]
    exact g8
  · rw [chW_o (by omega) (by omega), hlo _ (by omega)]
    exact g9
theorem KN.sw (h : KN n row w) (hn : n ≤ 7) {a b : Nat} {x y : Int32} : KN n (swR row n x y) (chW w a b) := fun p hp => by
  rw [chW_o (by omega) (by omega), swR_high hn (by omega)]
  exact h p hp
theorem chW_comm {a b : Nat} : chW w a b = chW w b a := by
  unfold chW
  by_cases z : a = b
  · subst z; rfl
  · exact vu_comm _ _ _ (by omega)
theorem swR_self (h : RW n row w) (hn : n ≤ 7) {a : Nat} (ha : a < n) : swR row n (nI a) (nI a) = row := by
  obtain ⟨ca, hca, e1, e2⟩ := h.2.1 a ha
  rw [swR_at h hn ha ha hca hca e2 e2, vu_uu, vu_self _ _ e2]
theorem riR_congr {b b' : Nat → Int32} {N : Nat} (h : ∀ j, j < N → b j = b' j) : ∀ (m p f : Nat), p + m ≤ N → f < N → riR b m p f = riR b' m p f := by
  intro m
  induction m with
  | zero => intro p f _ _; rfl
  | succ m ih =>
    intro p f hp hf
    rw [riR, riR, h f hf, h p (by omega)]
    exact ih (p + 1) _ (by omega) (by split <;> omega)
end RWS
theorem ix0 (p : Nat) : (4 : Int32) * nI p + 0 = nI (4 * p) := by rw [show (4 : Int32) = nI 4 from rfl, pk_mul, show (0 : Int32) = nI 0 from rfl, nI_add, Nat.add_zero]
theorem ix1 (p : Nat) : (4 : Int32) * nI p + 1 = nI (4 * p + 1) := by rw [show (4 : Int32) = nI 4 from rfl, pk_mul, show (1 : Int32) = nI 1 from rfl, nI_add]
theorem ix2 (p : Nat) : (4 : Int32) * nI p + 2 = nI (4 * p + 2) := by rw [show (4 : Int32) = nI 4 from rfl, pk_mul, show (2 : Int32) = nI 2 from rfl, nI_add]
theorem ix3 (p : Nat) : (4 : Int32) * nI p + 3 = nI (4 * p + 3) := by rw [show (4 : Int32) = nI 4 from rfl, pk_mul, show (3 : Int32) = nI 3 from rfl, nI_add]
theorem iv0 (v : Nat) : (2 : Int32) * nI v = nI (v * 2) := by rw [show (2 : Int32) = nI 2 from rfl, pk_mul, Nat.mul_comm]
theorem iv1 (v : Nat) : (2 : Int32) * nI v + 1 = nI (v * 2 + 1) := by rw [iv0, show (1 : Int32) = nI 1 from rfl, nI_add]
def Wok (r : Nat) : Prop := r = 71 ∨ r = 72
theorem Wok.sh {r : Nat} (h : Wok r) (hi : Nat → Nat → Int32) (hl : Nat → Nat → Int64) (f dr t : Nat) : (hS (HP hi hl f dr t))[r]? = some (100, 214) ∧ r ≠ 58 ∧ r ≠ 62 ∧ r ≠ 73 := by
  rcases h with rfl | rfl <;> exact ⟨rfl, by decide, by decide, by decide⟩
/-- the reference's fort is the class's -/
def FoR (hi : Nat → Nat → Int32) (f n ev : Nat) : Prop := hi 58 26 = nI n ∧ hi 58 27 = nI ev ∧ (∀ k, k < 4 → hi 63 k = hi (f + 1) k) ∧ (∀ k, k < n * 5 → hi 65 k = hi (f + 2) k) ∧ (∀ k, k < ev * 2 → hi 67 k = hi (f + 3) k)
/-- a fort's numbers are within their bounds -/
def FoB (hi : Nat → Nat → Int32) (f n ev : Nat) : Prop := (∀ k, k < 4 → fLo 0 k ≤ hi (f + 1) k ∧ hi (f + 1) k ≤ fHi 0 k) ∧ (∀ c k, c < n → k < 5 → fLo 1 k ≤ hi (f + 2) (c * 5 + k) ∧ hi (f + 2) (c * 5 + k) ≤ fHi 1 k) ∧ (∀ e k, e < ev → k < 2 → fLo 2 k ≤ hi (f + 3) (e * 2 + k) ∧ hi (f + 3) (e * 2 + k) ≤ fHi 2 k)
section REFROW
variable {G : ph_G} {d f dr t n r ev wi : Nat} {hi hi' : Nat → Nat → Int32} {hl : Nat → Nat → Int64} {Q : Option Value → ph_H → Prop} {row : Nat → Int32}
theorem c_risPrisoner {p : Int32} (hQ : Q (some (.int (if inB p (hi 58 26) = true then 1 else 0))) (HP hi hl f dr t)) : Ct G (0, 0) d 209 [.ref 58, .int p] (HP hi hl f dr t) Q := by
  have e : hI (HP hi hl f dr t) 58 26 = hi 58 26 := rfl
  refine Ct_of (ls := [_, _]) m_209.1.2.2.1 (Nat.le_of_ble_eq_true rfl) rfl ?_
  refine wq_iload_n q209_0 rfl ?_
  refine wq_if_lt q209_1 (fun c1 => ?_) (fun c1 => ?_)
  · refine wq_iconst q209_16 ?_
    refine rI q209_17 rfl ?_
    rw [inB_f1 c1] at hQ
    exact hQ
  · refine wq_iload_n q209_4 rfl ?_
    refine wq_aload_n q209_5 rfl ?_
    refine wq_getI q209_6 rfl rfl ?_
    refine wq_icmp_ge q209_9 (fun c9 => ?_) (fun c9 => ?_)
    · rw [e] at c9
      refine wq_iconst q209_16 ?_
      refine rI q209_17 rfl ?_
      rw [inB_f2 c9] at hQ
      exact hQ
    · rw [e] at c9
      refine wq_iconst q209_12 ?_
      refine wq_goto q209_13 ?_
      refine rI q209_17 rfl ?_
      rw [inB_t c1 c9] at hQ
      exact hQ
theorem c_risEvent {p : Int32} (hQ : Q (some (.int (if inB p (hi 58 27) = true then 1 else 0))) (HP hi hl f dr t)) : Ct G (0, 0) d 210 [.ref 58, .int p] (HP hi hl f dr t) Q := by
  have e : hI (HP hi hl f dr t) 58 27 = hi 58 27 := rfl
  refine Ct_of (ls := [_, _]) m_210.1.2.2.1 (Nat.le_of_ble_eq_true rfl) rfl ?_
  refine wq_iload_n q210_0 rfl ?_
  refine wq_if_lt q210_1 (fun c1 => ?_) (fun c1 => ?_)
  · refine wq_iconst q210_16 ?_
    refine rI q210_17 rfl ?_
    rw [inB_f1 c1] at hQ
    exact hQ
  · refine wq_iload_n q210_4 rfl ?_
    refine wq_aload_n q210_5 rfl ?_
    refine wq_getI q210_6 rfl rfl ?_
    refine wq_icmp_ge q210_9 (fun c9 => ?_) (fun c9 => ?_)
    · rw [e] at c9
      refine wq_iconst q210_16 ?_
      refine rI q210_17 rfl ?_
      rw [inB_f2 c9] at hQ
      exact hQ
    · rw [e] at c9
      refine wq_iconst q210_12 ?_
      refine wq_goto q210_13 ?_
      refine rI q210_17 rfl ?_
      rw [inB_t c1 c9] at hQ
      exact hQ
theorem c_risPlan {p : Int32} (hQ : Q (some (.int (if inB p (hi 58 30) = true then 1 else 0))) (HP hi hl f dr t)) : Ct G (0, 0) d 248 [.ref 58, .int p] (HP hi hl f dr t) Q := by
  have e : hI (HP hi hl f dr t) 58 30 = hi 58 30 := rfl
  refine Ct_of (ls := [_, _]) m_248.1.2.2.1 (Nat.le_of_ble_eq_true rfl) rfl ?_
  refine wq_iload_n q248_0 rfl ?_
  refine wq_if_lt q248_1 (fun c1 => ?_) (fun c1 => ?_)
  · refine wq_iconst q248_16 ?_
    refine rI q248_17 rfl ?_
    rw [inB_f1 c1] at hQ
    exact hQ
  · refine wq_iload_n q248_4 rfl ?_
    refine wq_aload_n q248_5 rfl ?_
    refine wq_getI q248_6 rfl rfl ?_
    refine wq_icmp_ge q248_9 (fun c9 => ?_) (fun c9 => ?_)
    · rw [e] at c9
      refine wq_iconst q248_16 ?_
      refine rI q248_17 rfl ?_
      rw [inB_f2 c9] at hQ
      exact hQ
    · rw [e] at c9
      refine wq_iconst q248_12 ?_
      refine wq_goto q248_13 ?_
      refine rI q248_17 rfl ?_
      rw [inB_t c1 c9] at hQ
      exact hQ
theorem c_inCell_loop {c p0 : Nat} (hr : Wok r) (hn : n ≤ 7) (h26 : hi 58 26 = nI n) (hp0 : p0 < n) (h1 : hi r (4 * p0) = nI c) (h2 : ∀ p, p < p0 → ¬ hi r (4 * p) = nI c) (hQ : Q (some (.int (nI p0))) (HP hi hl f dr t)) : ∀ (m p : Nat), p + m = p0 →
    wq G (0, 0) d 212 2 [some (.ref 58), some (.ref r), some (.int (nI c)), some (.int (nI p))] [] (0, 0) (HP hi hl f dr t) Q := by
  obtain ⟨hs, -⟩ := hr.sh hi hl f dr t
  have ec : hI (HP hi hl f dr t) 58 26 = nI n := h26
  intro m
  induction m with
  | zero =>
    intro p hm
    obtain rfl : p = p0 := by omega
    refine wq_iload_n q212_2 rfl ?_
    refine wq_aload_n q212_3 rfl ?_
    refine wq_getI q212_4 rfl rfl ?_
    refine wq_icmp_ge q212_7 (fun c7 => ?_) (fun c7 => ?_)
    · rw [ec, nI_leI (by omega) (by omega)] at c7
      omega
    · refine wq_aload_n q212_10 rfl ?_
      refine wq_iconst q212_11 ?_
      refine wq_iload_n q212_12 rfl ?_
      refine wq_imul q212_13 ?_
      refine wq_iconst q212_14 ?_
      refine wq_iadd q212_15 ?_
      refine aI q212_16 (by first | exact hs | rfl) (ix0 p) (by show 4 * p < 214; omega) (by first | decide | omega) ?_
      refine wq_iload_n q212_17 rfl ?_
      refine wq_icmp_ne q212_18 (fun c18 => ?_) (fun c18 => ?_)
      · exact absurd h1 c18
      · refine wq_iload_n q212_21 rfl ?_
        refine rI q212_22 rfl ?_
        exact hQ
  | succ m ih =>
    intro p hm
    refine wq_iload_n q212_2 rfl ?_
    refine wq_aload_n q212_3 rfl ?_
    refine wq_getI q212_4 rfl rfl ?_
    refine wq_icmp_ge q212_7 (fun c7 => ?_) (fun c7 => ?_)
    · rw [ec, nI_leI (by omega) (by omega)] at c7
      omega
    · refine wq_aload_n q212_10 rfl ?_
      refine wq_iconst q212_11 ?_
      refine wq_iload_n q212_12 rfl ?_
      refine wq_imul q212_13 ?_
      refine wq_iconst q212_14 ?_
      refine wq_iadd q212_15 ?_
      refine aI q212_16 (by first | exact hs | rfl) (ix0 p) (by show 4 * p < 214; omega) (by first | decide | omega) ?_
      refine wq_iload_n q212_17 rfl ?_
      refine wq_icmp_ne q212_18 (fun c18 => ?_) (fun c18 => ?_)
      · refine wq_iinc (ls' := [_, _, _, _]) q212_23 rfl rfl ?_
        refine wq_goto q212_26 ?_
        rw [nI_1]
        exact ih (p + 1) (by omega)
      · exact absurd c18 (h2 p (by omega))
/-- who sits in a cell -/
theorem c_inCell {c : Nat} (hr : Wok r) (hn : n ≤ 7) (h26 : hi 58 26 = nI n) (hw : RW n row (hi r)) (hc : c < n) (hQ : Q (some (.int (row c))) (HP hi hl f dr t)) : Ct G (0, 0) d 212 [.ref 58, .ref r, .int (nI c)] (HP hi hl f dr t) Q := by
  obtain ⟨p0, hp0, e1, e2⟩ := hw.1 c hc
  rw [e1] at hQ
  refine Ct_of (ls := [_, _, _, _]) m_212.1.2.2.1 (Nat.le_of_ble_eq_true rfl) rfl ?_
  refine wq_iconst q212_0 ?_
  refine wq_istore_n (ls' := [_, _, _, _]) q212_1 rfl ?_
  refine c_inCell_loop hr hn h26 hp0 e2 (fun p hp z => ?_) hQ p0 0 (by omega)
  have := hw.pris hn hc (by omega) z
  have := (nI_eq (by omega) (by omega)).mp (e1.symm.trans this)
  omega
theorem c_rteller (hr : Wok r) (hn : n ≤ 7) (h26 : hi 58 26 = nI n) (h63 : hi 63 0 = nI wi) (hw : RW n row (hi r)) (hwi : wi < n) (hQ : Q (some (.int (row wi))) (HP hi hl f dr t)) : Ct G (0, 0) (d + 1) 213 [.ref 58, .ref r] (HP hi hl f dr t) Q := by
  have e63 : hI (HP hi hl f dr t) 63 0 = nI wi := h63
  refine Ct_of (ls := [_, _]) m_213.1.2.2.1 (Nat.le_of_ble_eq_true rfl) rfl ?_
  refine wq_aload_n q213_0 rfl ?_
  refine wq_aload_n q213_1 rfl ?_
  refine wq_aload_n q213_2 rfl ?_
  refine wq_getR q213_3 rfl rfl rfl ?_
  refine wq_iconst q213_6 ?_
  refine aI q213_7 rfl (rfl) (by decide) (by first | decide | omega) ?_
  rw [e63]
  refine cV (As := [_, _]) q213_8 m_212 rfl rfl rfl ⟨by decide, rfl⟩ rfl (c_inCell hr hn h26 hw hwi ?_)
  refine rI q213_11 rfl ?_
  exact hQ
theorem c_risHeard {p c : Nat} (hr : Wok r) (hp : p < 7) (hc : c < 7) (hw : hi r (4 * p) = nI c) (hQ : Q (some (.int (if 0 < hi 73 c then 1 else 0))) (HP hi hl f dr t)) : Ct G (0, 0) d 216 [.ref 58, .ref r, .int (nI p)] (HP hi hl f dr t) Q := by
  obtain ⟨hs, -⟩ := hr.sh hi hl f dr t
  have ew : hI (HP hi hl f dr t) r (4 * p) = nI c := hw
  refine Ct_of (ls := [_, _, _]) m_216.1.2.2.1 (Nat.le_of_ble_eq_true rfl) rfl ?_
  refine wq_aload_n q216_0 rfl ?_
  refine wq_getR q216_1 (by first | exact hs | rfl) rfl (by first | exact hs | rfl) ?_
  refine wq_aload_n q216_4 rfl ?_
  refine wq_iconst q216_5 ?_
  refine wq_iload_n q216_6 rfl ?_
  refine wq_imul q216_7 ?_
  refine wq_iconst q216_8 ?_
  refine wq_iadd q216_9 ?_
  refine aI q216_10 (by first | exact hs | rfl) (ix0 p) (by show 4 * p < 214; omega) (by first | decide | omega) ?_
  rw [ew]
  refine aI q216_11 (by first | exact hs | rfl) (rfl) (by show c < 7; omega) (by first | decide | omega) ?_
  refine wq_if_le q216_12 (fun c12 => ?_) (fun c12 => ?_)
  · rw [hIH] at c12
    rw [if_neg (Int32.not_lt.mpr c12)] at hQ
    refine wq_iconst q216_19 ?_
    refine rI q216_20 rfl ?_
    exact hQ
  · rw [hIH] at c12
    rw [if_pos (Int32.not_le.mp c12)] at hQ
    refine wq_iconst q216_15 ?_
    refine wq_goto q216_16 ?_
    refine rI q216_20 rfl ?_
    exact hQ
theorem c_risWorn (hr : Wok r) (hQ : Q (some (.int (if hi 63 2 ≤ hi r 30 then 1 else 0))) (HP hi hl f dr t)) : Ct G (0, 0) d 217 [.ref 58, .ref r] (HP hi hl f dr t) Q := by
  obtain ⟨hs, -⟩ := hr.sh hi hl f dr t
  refine Ct_of (ls := [_, _]) m_217.1.2.2.1 (Nat.le_of_ble_eq_true rfl) rfl ?_
  refine wq_aload_n q217_0 rfl ?_
  refine wq_bipush q217_1 ?_
  refine aI q217_3 (by first | exact hs | rfl) ((show (30 : Int32) = nI 30 from rfl)) (by decide) (by first | decide | omega) ?_
  refine wq_aload_n q217_4 rfl ?_
  refine wq_getR q217_5 (by first | exact hs | rfl) rfl (by first | exact hs | rfl) ?_
  refine wq_iconst q217_8 ?_
  refine aI q217_9 (by first | exact hs | rfl) ((show (2 : Int32) = nI 2 from rfl)) (by decide) (by first | decide | omega) ?_
  refine wq_icmp_lt q217_10 (fun c10 => ?_) (fun c10 => ?_)
  · rw [hIH] at c10
    rw [if_neg (Int32.not_le.mpr c10)] at hQ
    refine wq_iconst q217_17 ?_
    refine rI q217_18 rfl ?_
    exact hQ
  · rw [hIH] at c10
    rw [if_pos (Int32.not_lt.mp c10)] at hQ
    refine wq_iconst q217_13 ?_
    refine wq_goto q217_14 ?_
    refine rI q217_18 rfl ?_
    exact hQ
theorem c_risToldBy {v : Nat} (hr : Wok r) (hn : n ≤ 7) (h26 : hi 58 26 = nI n) (h63 : hi 63 0 = nI wi) (hw : RW n row (hi r)) (hwi : wi < n) (hQ : Q (some (.int (if hsB (hi r 28) (nI v) = true ∧ ¬ hi 65 (sOf row wi * 5 + 3) = nI v then 1 else 0))) (HP hi hl f dr t)) : Ct G (0, 0) (d + 2) 219 [.ref 58, .ref r, .int (nI v)] (HP hi hl f dr t) Q := by
  obtain ⟨hs, -⟩ := hr.sh hi hl f dr t
  obtain ⟨s1, s2, -⟩ := hw.s hn hwi
  refine Ct_of (ls := [_, _, _]) m_219.1.2.2.1 (Nat.le_of_ble_eq_true rfl) rfl ?_
  refine wq_aload_n q219_0 rfl ?_
  refine wq_bipush q219_1 ?_
  refine aI q219_3 (by first | exact hs | rfl) ((show (28 : Int32) = nI 28 from rfl)) (by decide) (by first | decide | omega) ?_
  refine wq_iload_n q219_4 rfl ?_
  refine cS' (As := [_, _]) q219_5 m_171 rfl rfl rfl (c_rhas ?_)
  refine wq_if_eq q219_8 (fun c8 => ?_) (fun c8 => ?_)
  · have c := i01 c8
    rw [if_neg (fun z => by rw [show hI (HP hi hl f dr t) r 28 = hi r 28 from rfl, z.1] at c; cases c)] at hQ
    refine wq_iconst q219_29 ?_
    refine rI q219_30 rfl ?_
    exact hQ
  · have c := i10 c8
    refine wq_aload_n q219_11 rfl ?_
    refine wq_aload_n q219_12 rfl ?_
    refine wq_aload_n q219_13 rfl ?_
    refine cV (As := [_]) q219_14 m_213 rfl rfl rfl ⟨by decide, rfl⟩ rfl (c_rteller hr hn h26 h63 hw hwi ?_)
    rw [s2]
    refine wq_iconst q219_17 ?_
    refine cV (As := [_, _]) q219_18 m_211 rfl rfl rfl ⟨by decide, rfl⟩ rfl (c_toldH (w := 3) (by omega) (by omega) ?_)
    refine wq_iload_n q219_21 rfl ?_
    refine wq_icmp_eq q219_22 (fun c22 => ?_) (fun c22 => ?_)
    · rw [if_neg (fun z => z.2 c22)] at hQ
      refine wq_iconst q219_29 ?_
      refine rI q219_30 rfl ?_
      exact hQ
    · rw [if_pos ⟨c, c22⟩] at hQ
      refine wq_iconst q219_25 ?_
      refine wq_goto q219_26 ?_
      refine rI q219_30 rfl ?_
      exact hQ
theorem c_changes {a b : Nat} (hr : Wok r) (ha : a < 7) (hb : b < 7) (hQ : Q none (HP (upC hi r (chW (hi r) a b)) hl f dr t)) : Ct G (0, 0) d 234 [.ref r, .int (nI a), .int (nI b)] (HP hi hl f dr t) Q := by
  obtain ⟨hs, -⟩ := hr.sh hi hl f dr t
  refine Ct_of (ls := [_, _, _, _]) m_234.1.2.2.1 (Nat.le_of_ble_eq_true rfl) rfl ?_
  refine wq_aload_n q234_0 rfl ?_
  refine wq_iconst q234_1 ?_
  refine wq_iload_n q234_2 rfl ?_
  refine wq_imul q234_3 ?_
  refine wq_iconst q234_4 ?_
  refine wq_iadd q234_5 ?_
  refine aI q234_6 (by first | exact hs | rfl) (ix0 a) (by show 4 * a < 214; omega) (by first | decide | omega) ?_
  refine wq_istore_n (ls' := [_, _, _, _]) q234_7 rfl ?_
  refine wq_aload_n q234_8 rfl ?_
  refine wq_iconst q234_9 ?_
  refine wq_iload_n q234_10 rfl ?_
  refine wq_imul q234_11 ?_
  refine wq_iconst q234_12 ?_
  refine wq_iadd q234_13 ?_
  refine wq_aload_n q234_14 rfl ?_
  refine wq_iconst q234_15 ?_
  refine wq_iload_n q234_16 rfl ?_
  refine wq_imul q234_17 ?_
  refine wq_iconst q234_18 ?_
  refine wq_iadd q234_19 ?_
  refine aI q234_20 (by first | exact hs | rfl) (ix0 b) (by show 4 * b < 214; omega) (by first | decide | omega) ?_
  refine sI q234_21 (by first | exact hs | rfl) (ix0 a) (by show 4 * a < 214; omega) (by first | decide | omega) (by first | exact hs | rfl) ?_
  rw [hpS, up2_C]
  obtain ⟨hs2, -⟩ := hr.sh (upC hi r (va_up (hi r) (4 * a) (hI (HP hi hl f dr t) r (4 * b)))) hl f dr t
  refine wq_aload_n q234_22 rfl ?_
  refine wq_iconst q234_23 ?_
  refine wq_iload_n q234_24 rfl ?_
  refine wq_imul q234_25 ?_
  refine wq_iconst q234_26 ?_
  refine wq_iadd q234_27 ?_
  refine wq_iload_n q234_28 rfl ?_
  refine sI q234_29 (by first | exact hs2 | rfl) (ix0 b) (by show 4 * b < 214; omega) (by first | decide | omega) (by first | exact hs2 | rfl) ?_
  refine rV q234_30 ?_
  rw [hpS, up2_C, upC_s, upC_C]
  exact hQ
theorem c_rrichest_loop (hr : Wok r) (hn : n ≤ 7) (h26 : hi 58 26 = nI n) : ∀ (m p g : Nat), p + m = n ∨ (m = 0 ∧ n ≤ p ∧ p ≤ 7) → g < 7 → Q (some (.int (nI (riR (fun i => hi r (4 * i + 1)) m p g)))) (HP hi hl f dr t) →
    wq G (0, 0) d 237 4 [some (.ref 58), some (.ref r), some (.int (nI g)), some (.int (nI p))] [] (0, 0) (HP hi hl f dr t) Q := by
  obtain ⟨hs, -⟩ := hr.sh hi hl f dr t
  have ec : hI (HP hi hl f dr t) 58 26 = nI n := h26
  intro m
  induction m with
  | zero =>
    intro p g hp hg hQ
    refine wq_iload_n q237_4 rfl ?_
    refine wq_aload_n q237_5 rfl ?_
    refine wq_getI q237_6 rfl rfl ?_
    refine wq_icmp_ge q237_9 (fun c9 => ?_) (fun c9 => ?_)
    · refine wq_iload_n q237_41 rfl ?_
      refine rI q237_42 rfl ?_
      exact hQ
    · rw [ec, nI_leI (by omega) (by omega)] at c9
      omega
  | succ m ih =>
    intro p g hp hg hQ
    rw [riR] at hQ
    refine wq_iload_n q237_4 rfl ?_
    refine wq_aload_n q237_5 rfl ?_
    refine wq_getI q237_6 rfl rfl ?_
    refine wq_icmp_ge q237_9 (fun c9 => ?_) (fun c9 => ?_)
    · rw [ec, nI_leI (by omega) (by omega)] at c9
      omega
    · refine wq_aload_n q237_12 rfl ?_
      refine wq_iconst q237_13 ?_
      refine wq_iload_n q237_14 rfl ?_
      refine wq_imul q237_15 ?_
      refine wq_iconst q237_16 ?_
      refine wq_iadd q237_17 ?_
      refine aI q237_18 (by first | exact hs | rfl) (ix1 p) (by show 4 * p + 1 < 214; omega) (by first | decide | omega) ?_
      refine wq_aload_n q237_19 rfl ?_
      refine wq_iconst q237_20 ?_
      refine wq_iload_n q237_21 rfl ?_
      refine wq_imul q237_22 ?_
      refine wq_iconst q237_23 ?_
      refine wq_iadd q237_24 ?_
      refine aI q237_25 (by first | exact hs | rfl) (ix1 g) (by show 4 * g + 1 < 214; omega) (by first | decide | omega) ?_
      refine wq_icmp_le q237_26 (fun c26 => ?_) (fun c26 => ?_)
      · rw [hIH] at c26
        rw [if_neg (Int32.not_lt.mpr c26)] at hQ
        refine wq_iload_n q237_33 rfl ?_
        refine wq_istore_n (ls' := [_, _, _, _]) q237_34 rfl ?_
        refine wq_iinc (ls' := [_, _, _, _]) q237_35 rfl rfl ?_
        refine wq_goto q237_38 ?_
        rw [nI_1]
        exact ih (p + 1) g (by omega) hg hQ
      · rw [hIH] at c26
        rw [if_pos (Int32.not_le.mp c26)] at hQ
        refine wq_iload_n q237_29 rfl ?_
        refine wq_goto q237_30 ?_
        refine wq_istore_n (ls' := [_, _, _, _]) q237_34 rfl ?_
        refine wq_iinc (ls' := [_, _, _, _]) q237_35 rfl rfl ?_
        refine wq_goto q237_38 ?_
        rw [nI_1]
        exact ih (p + 1) p (by omega) (by omega) hQ
/-- the richest, by the class's row -/
theorem c_rrichest (hr : Wok r) (hn : n ≤ 7) (hn1 : 1 ≤ n) (h26 : hi 58 26 = nI n) (hw : RW n row (hi r)) (hQ : Q (some (.int (nI (riR (fun i => row (7 + i)) (n - 1) 1 0)))) (HP hi hl f dr t)) : Ct G (0, 0) d 237 [.ref 58, .ref r] (HP hi hl f dr t) Q := by
  refine Ct_of (ls := [_, _, _, _]) m_237.1.2.2.1 (Nat.le_of_ble_eq_true rfl) rfl ?_
  refine wq_iconst q237_0 ?_
  refine wq_istore_n (ls' := [_, _, _, _]) q237_1 rfl ?_
  refine wq_iconst q237_2 ?_
  refine wq_istore_n (ls' := [_, _, _, _]) q237_3 rfl ?_
  refine c_rrichest_loop hr hn h26 (n - 1) 1 0 (by omega) (by omega) ?_
  rw [riR_congr (N := n) (fun j hj => hw.2.2.1 j hj) _ _ _ (by omega) (by omega)]
  exact hQ
end REFROW
