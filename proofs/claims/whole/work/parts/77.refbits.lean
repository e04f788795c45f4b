/-! BITS of sets: who hears, in the class and in the reference -/
theorem b_1 (i : Nat) : bt 1 i = decide (i = 0) := by
  by_cases h : i < 32
  · revert i
    decide
  · rw [b_big (by omega), decide_eq_false (by omega)]
theorem b_one {k i : Nat} (hk : k < 32) (hi : i < 32) : bt (1 <<< (nI k &&& 31)) i = decide (i = k) := by
  rw [b_shl k hk 1 hi, b_1]
  by_cases h : i = k
  · rw [decide_eq_true h, decide_eq_true (by omega), decide_eq_true (by omega)]; rfl
  · rw [decide_eq_false h]
    by_cases h2 : k ≤ i
    · rw [decide_eq_true h2, decide_eq_false (by omega)]; rfl
    · rw [decide_eq_false h2]; rfl
/-- the test of a bit -/
theorem b_test {x : Int32} {p : Nat} (hp : p < 31) : (x >>> (nI p &&& 31)) &&& 1 = 1 ↔ bt x p = true := by
  constructor
  · intro h
    have h0 : bt ((x >>> (nI p &&& 31)) &&& 1) 0 = bt 1 0 := by rw [h]
    rw [b_and, b_sshr p (by omega) x (by decide), if_pos (by omega), b_1] at h0
    simpa using h0
  · intro h
    refine b_ext (fun i hi => ?_)
    rw [b_and, b_1]
    by_cases h0 : i = 0
    · subst h0
      rw [b_sshr p (by omega) x (by decide), if_pos (by omega)]
      simpa using h
    · rw [decide_eq_false h0, Bool.and_false]
theorem hsB_bt {x : Int32} {p : Nat} (hp : p < 31) : hsB x (nI p) = bt x p := by
  unfold hsB
  rw [Bool.eq_iff_iff, decide_eq_true_eq]
  exact b_test hp
theorem hrR_bit {st row : Nat → Int32} {fr : Nat} {s : Nat → Nat} {i : Nat} (hi : i < 32) : ∀ (m c : Nat) (b : Int32), (∀ j, c ≤ j → j < c + m → row j = nI (s j) ∧ s j < 7) → (bt (hrR st row fr m c b) i = true ↔ (bt b i = true ∨ ∃ j, c ≤ j ∧ j < c + m ∧ j ≠ fr ∧ 0 < st j ∧ s j = i)) := by
  intro m
  induction m with
  | zero =>
    intro c b _
    rw [hrR]
    constructor
    · exact Or.inl
    · rintro (h | ⟨j, h1, h2, -⟩)
      · exact h
      · omega
  | succ m ih =>
    intro c b hs
    rw [hrR, ih (c + 1) _ (fun j h1 h2 => hs j (by omega) (by omega))]
    obtain ⟨e1, e2⟩ := hs c (Nat.le_refl _) (by omega)
    by_cases h : c ≠ fr ∧ 0 < st c
    · rw [if_pos h, b_or, e1, b_one (by omega) hi, Bool.or_eq_true, decide_eq_true_eq]
      constructor
      · rintro ((h1 | h1) | ⟨j, h1, h2, h3⟩)
        · exact Or.inl h1
        · exact Or.inr ⟨c, Nat.le_refl _, by omega, h.1, h.2, h1.symm⟩
        · exact Or.inr ⟨j, by omega, by omega, h3⟩
      · rintro (h1 | ⟨j, h1, h2, h3⟩)
        · exact Or.inl (Or.inl h1)
        · by_cases hj : j = c
          · subst hj
            exact Or.inl (Or.inr h3.2.2.symm)
          · exact Or.inr ⟨j, by omega, by omega, h3⟩
    · rw [if_neg h]
      constructor
      · rintro (h1 | ⟨j, h1, h2, h3⟩)
        · exact Or.inl h1
        · exact Or.inr ⟨j, by omega, by omega, h3⟩
      · rintro (h1 | ⟨j, h1, h2, h3⟩)
        · exact Or.inl h1
        · by_cases hj : j = c
          · subst hj
            exact absurd ⟨h3.1, h3.2.1⟩ h
          · exact Or.inr ⟨j, by omega, by omega, h3⟩
section HR
variable {n wi : Nat} {row w st : Nat → Int32}
/-- bit p of the hearers: p sits elsewhere, and it is loud there -/
theorem RW.hr (h : RW n row w) (hn : n ≤ 7) {fr p c : Nat} (hp : p < n) (hc : c < n) (e : w (4 * p) = nI c) : bt (hrR st row fr n 0 0) p = true ↔ (c ≠ fr ∧ 0 < st c) := by
  have hsi := (h.sit hn).si
  rw [hrR_bit (s := sOf row) (by omega) n 0 0 (fun j _ h2 => hsi j (by omega))]
  have er := h.pris hn hc hp e
  have es : sOf row c = p := by unfold sOf; rw [er]; exact nI_clamp (by omega)
  constructor
  · rintro (h1 | ⟨j, -, h2, h3, h4, h5⟩)
    · rw [b_0] at h1
      cases h1
    · have hj : j < n := by omega
      obtain ⟨-, k2, k3⟩ := h.s hn hj
      rw [h5] at k3
      have := (nI_eq (by omega) (by omega)).mp (k3.symm.trans e)
      subst this
      exact ⟨h3, h4⟩
  · intro h1
    exact Or.inr ⟨c, by omega, by omega, h1.1, h1.2, es⟩
theorem RW.hr_hi (h : RW n row w) (hn : n ≤ 7) {fr p : Nat} (hp : n ≤ p) (hp2 : p < 32) : bt (hrR st row fr n 0 0) p = false := by
  have hsi := (h.sit hn).si
  cases hb : bt (hrR st row fr n 0 0) p with
  | false => rfl
  | true =>
    rw [hrR_bit (s := sOf row) (by omega) n 0 0 (fun j _ h2 => hsi j (by omega))] at hb
    rcases hb with h1 | ⟨j, -, h2, h3, h4, h5⟩
    · rw [b_0] at h1
      cases h1
    · obtain ⟨k1, -⟩ := h.s hn (show j < n by omega)
      omega
/-- the reference's bits, one by one -/
def rbR (g : Nat → Bool) : Nat → Nat → Int32 → Int32
  | 0, _, b => b
  | m + 1, p, b => rbR g m (p + 1) (if g p = true then b ||| (1 <<< (nI p &&& 31)) else b)
theorem rbR_bit {g : Nat → Bool} {i : Nat} (hi : i < 32) : ∀ (m p : Nat) (b : Int32), p + m ≤ 32 → bt (rbR g m p b) i = (bt b i || (decide (p ≤ i ∧ i < p + m) && g i)) := by
  intro m
  induction m with
  | zero =>
    intro p b _
    rw [rbR, decide_eq_false (by omega)]
    simp
  | succ m ih =>
    intro p b hp
    rw [rbR, ih (p + 1) _ (by omega)]
    by_cases hg : g p = true
    · rw [if_pos hg, b_or, b_one (by omega) hi]
      by_cases h : i = p
      · subst h
        simp [hg]
      · have e : decide (p + 1 ≤ i ∧ i < p + 1 + m) = decide (p ≤ i ∧ i < p + (m + 1)) := by
          congr 1
          apply propext
          omega
        rw [e, decide_eq_false h]
        simp
    · rw [if_neg hg]
      by_cases h : i = p
      · subst h
        simp [hg]
      · have e : decide (p + 1 ≤ i ∧ i < p + 1 + m) = decide (p ≤ i ∧ i < p + (m + 1)) := by
          congr 1
          apply propext
          omega
        rw [e]
/-- both make the same set -/
theorem RW.bits (h : RW n row w) (hn : n ≤ 7) {fr : Nat} : rbR (fun p => bt (hrR st row fr n 0 0) p) n 0 0 = hrR st row fr n 0 0 := by
  refine b_ext (fun i hi => ?_)
  rw [rbR_bit hi n 0 0 (by omega), b_0, Bool.false_or]
  by_cases hi2 : i < n
  · rw [decide_eq_true (by omega), Bool.true_and]
  · rw [decide_eq_false (by omega), h.hr_hi hn (by omega) hi]
    rfl
end HR
/-! what a row is behind the hearing -/
theorem payR_o {row : Nat → Int32} {p q : Nat} {c : Int32} {j : Nat} (h1 : j ≠ 7 + p) (h2 : j ≠ 7 + q) : payR row p q c j = row j := payR_low ⟨h1, h2⟩
theorem heR_mid {bits : Int32} {v te : Nat} {cost : Int32} {j : Nat} (hte : te < 7) (hj : 14 ≤ j ∧ j < 21) : ∀ (m p : Nat) (x : (Nat → Int32) × (Nat → Int32)), p + m ≤ 7 → (heR bits v te cost m p x).2 j = x.2 j := by
  intro m
  induction m with
  | zero => intro p x _; rfl
  | succ m ih =>
    intro p x hp
    rw [heR, ih (p + 1) _ (by omega)]
    unfold heS
    split
    · show payR _ p te cost j = _
      rw [payR_o (by omega) (by omega), vu_o _ _ (by omega)]
    · rfl
theorem heR_know {bits : Int32} {v te : Nat} {cost : Int32} {q : Nat} (hte : te < 7) : ∀ (m p : Nat) (x : (Nat → Int32) × (Nat → Int32)), p + m ≤ 7 → (heR bits v te cost m p x).2 (21 + q) = (if p ≤ q ∧ q < p + m ∧ bt bits q = true then x.2 (21 + q) ||| (1 <<< (nI v &&& 31)) else x.2 (21 + q)) ∧ (heR bits v te cost m p x).1 q = (if p ≤ q ∧ q < p + m ∧ bt bits q = true then x.1 q ||| (1 <<< (nI v &&& 31)) else x.1 q) := by
  intro m
  induction m with
  | zero =>
    intro p x _
    rw [if_neg (fun z => absurd z.2.1 (by omega)), if_neg (fun z => absurd z.2.1 (by omega))]
    exact ⟨rfl, rfl⟩
  | succ m ih =>
    intro p x hp
    obtain ⟨i1, i2⟩ := ih (p + 1) (heS bits v te cost p x) (by omega)
    rw [heR, i1, i2]
    unfold heS
    by_cases hb : bits >>> (nI p &&& 31) &&& 1 = 1
    · rw [if_pos hb]
      have hb' := (b_test (by omega)).mp hb
      by_cases hq : q = p
      · subst hq
        rw [if_neg (fun z => absurd z.1 (by omega)), if_pos ⟨by omega, by omega, hb'⟩, if_neg (fun z => absurd z.1 (by omega)), if_pos ⟨by omega, by omega, hb'⟩]
        refine ⟨?_, vu_s _ _ _⟩
        show payR _ q te cost (21 + q) = _
        rw [payR_o (by omega) (by omega), vu_s]
      · have e : (p + 1 ≤ q ∧ q < p + 1 + m ∧ bt bits q = true) ↔ (p ≤ q ∧ q < p + (m + 1) ∧ bt bits q = true) := by
          constructor
          · rintro ⟨h1, h2, h3⟩; exact ⟨by omega, by omega, h3⟩
          · rintro ⟨h1, h2, h3⟩; exact ⟨by omega, by omega, h3⟩
        have e2 : payR (va_up x.2 (21 + p) (x.2 (21 + p) ||| (1 <<< (nI v &&& 31)))) p te cost (21 + q) = x.2 (21 + q) := by
          rw [payR_o (by omega) (by omega), vu_o _ _ (by omega)]
        simp only [e, e2, vu_o _ _ hq]
        exact ⟨trivial, trivial⟩
    · rw [if_neg hb]
      have hb' : ¬ bt bits p = true := fun z => hb ((b_test (by omega)).mpr z)
      by_cases hq : q = p
      · subst hq
        rw [if_neg (fun z => absurd z.1 (by omega)), if_neg (fun z => hb' z.2.2), if_neg (fun z => absurd z.1 (by omega)), if_neg (fun z => hb' z.2.2)]
        exact ⟨rfl, rfl⟩
      · have e : (p + 1 ≤ q ∧ q < p + 1 + m ∧ bt bits q = true) ↔ (p ≤ q ∧ q < p + (m + 1) ∧ bt bits q = true) := by
          constructor
          · rintro ⟨h1, h2, h3⟩; exact ⟨by omega, by omega, h3⟩
          · rintro ⟨h1, h2, h3⟩; exact ⟨by omega, by omega, h3⟩
        simp only [e]
        exact ⟨trivial, trivial⟩
/-- steps without a bit change nothing -/
theorem heR_no {bits : Int32} {v te : Nat} {cost : Int32} : ∀ (m p : Nat) (x : (Nat → Int32) × (Nat → Int32)), p + m ≤ 7 → (∀ q, p ≤ q → q < 7 → bt bits q = false) → heR bits v te cost m p x = x := by
  intro m
  induction m with
  | zero => intro p x _ _; rfl
  | succ m ih =>
    intro p x hp hb
    rw [heR]
    have e : heS bits v te cost p x = x := by
      unfold heS
      rw [if_neg (fun z => by have := (b_test (by omega)).mp z; rw [hb p (Nat.le_refl _) (by omega)] at this; cases this)]
    rw [e]
    exact ih (p + 1) x (by omega) (fun q h1 h2 => hb q (by omega) h2)
theorem spU_0 (bw : Nat → Nat → Int32 → Int32) (fr : Nat) (l : Int32) : spU bw fr l 0 = l := rfl
/-- strengths by sits that agree -/
theorem spV_sc {hi : Nat → Nat → Int32} {f : Nat} {lw : Option Nat} {sz v n : Nat} {row : Nat → Int32} {s s' : Nat → Nat} {fr : Nat} (h : ∀ c, c < n → s c = s' c) (hfr : fr < n) : ∀ c, c < n → spV hi f lw sz v row s fr c = spV hi f lw sz v row s' fr c := by
  have hb : ∀ w c x, c < n → bwC hi f lw sz v row s w c x = bwC hi f lw sz v row s' w c x := fun w c x hc => by unfold bwC; rw [h c hc]
  have up : ∀ k, fr + k < n → spV hi f lw sz v row s fr (fr + k) = spV hi f lw sz v row s' fr (fr + k) := by
    intro k
    induction k with
    | zero =>
      intro _
      unfold spV spC
      rw [if_pos (by omega), if_pos (by omega), show fr + 0 - fr = 0 by omega, spU_0, spU_0]
    | succ k ih =>
      intro hk
      unfold spV at ih ⊢
      rw [spC_up (bw := bwC hi f lw sz v row s) (c := fr + (k + 1)) (by omega), spC_up (bw := bwC hi f lw sz v row s') (c := fr + (k + 1)) (by omega), show fr + (k + 1) - 1 = fr + k by omega, ih (by omega), hb _ _ _ (by omega)]
  have dn : ∀ k, k ≤ fr → spV hi f lw sz v row s fr (fr - k) = spV hi f lw sz v row s' fr (fr - k) := by
    intro k
    induction k with
    | zero =>
      intro _
      have h0 := up 0 (by omega)
      rw [Nat.add_zero] at h0
      rw [Nat.sub_zero]
      exact h0
    | succ k ih =>
      intro hk
      unfold spV at ih ⊢
      rw [spC_down (bw := bwC hi f lw sz v row s) (c := fr - (k + 1)) (by omega), spC_down (bw := bwC hi f lw sz v row s') (c := fr - (k + 1)) (by omega), show fr - (k + 1) + 1 = fr - k by omega, ih (by omega), hb _ _ _ (by omega)]
  intro c hc
  by_cases hcf : fr ≤ c
  · have := up (c - fr) (by omega)
    rwa [show fr + (c - fr) = c by omega] at this
  · have := dn (fr - c) (by omega)
    rwa [show fr - (fr - c) = c by omega] at this
/-- bread changes hands in both -/
def pyW (w : Nat → Int32) (p q : Nat) (c : Int32) : Nat → Int32 := if w (4 * p + 1) < c then w else va_up (va_up w (4 * p + 1) (w (4 * p + 1) - c)) (4 * q + 1) (va_up w (4 * p + 1) (w (4 * p + 1) - c) (4 * q + 1) + c)
theorem RW.know {n : Nat} {row w : Nat → Int32} (h : RW n row w) {q : Nat} (hq : 21 ≤ q ∧ q < 28) (hn : n ≤ 7) (z : Int32) : RW n (va_up row q z) w := by
  have e : ∀ j, j ≠ q → va_up row q z j = row j := fun j hj => vu_o _ _ hj
  obtain ⟨g1, g2, g3, g4, g5, g6, g7, g8, g9⟩ := h
  refine ⟨fun c hc => ?_, fun p hp => ?_, fun p hp => ?_, fun p hp => ?_, ?_, ?_, ?_, ?_, ?_⟩
  · rw [e c (by omega)]; exact g1 c hc
  · obtain ⟨c, hc, k1, k2⟩ := g2 p hp
    exact ⟨c, hc, k1, by rw [e c (by omega)]; exact k2⟩
  · rw [e _ (by omega)]; exact g3 p hp
  · rw [e _ (by omega)]; exact g4 p hp
  · rw [e _ (by omega)]; exact g5
  · rw [e _ (by omega)]; exact g6
  · rw [e _ (by omega)]; exact g7
  · rw [e _ (by omega)]; exact g8
  · rw [e _ (by omega)]; exact g9
/-- a change of bread, and of nothing else -/
theorem RW.bread {n : Nat} {row w row' w' : Nat → Int32} (h : RW n row w) (hn : n ≤ 7) (h1 : ∀ j, (j < 7 ∨ 14 ≤ j) → row' j = row j) (h2 : ∀ j, (28 ≤ j ∨ ¬ j % 4 = 1) → w' j = w j) (h3 : ∀ p, p < n → w' (4 * p + 1) = row' (7 + p)) : RW n row' w' := by
  obtain ⟨g1, g2, g3, g4, g5, g6, g7, g8, g9⟩ := h
  refine ⟨fun c hc => ?_, fun p hp => ?_, h3, fun p hp => ?_, ?_, ?_, ?_, ?_, ?_⟩
  · obtain ⟨p, hp, k1, k2⟩ := g1 c hc
    exact ⟨p, hp, by rw [h1 c (by omega)]; exact k1, by rw [h2 _ (by omega)]; exact k2⟩
  · obtain ⟨c, hc, k1, k2⟩ := g2 p hp
    exact ⟨c, hc, by rw [h2 _ (by omega)]; exact k1, by rw [h1 c (by omega)]; exact k2⟩
  · rw [h2 _ (by omega), h1 _ (by omega)]; exact g4 p hp
  · rw [h2 _ (by omega), h1 _ (by omega)]; exact g5
  · rw [h2 _ (by omega), h1 _ (by omega)]; exact g6
  · rw [h2 _ (by omega), h1 _ (by omega)]; exact g7
  · rw [h2 _ (by omega), h1 _ (by omega)]; exact g8
  · rw [h2 _ (by omega), h1 _ (by omega)]; exact g9
theorem RW.pay {n : Nat} {row w : Nat → Int32} (h : RW n row w) (hn : n ≤ 7) {p q : Nat} (hp : p < n) (hq : q < n) {c : Int32} : RW n (payR row p q c) (pyW w p q c) := by
  have ep := h.2.2.1 p hp
  have eq := h.2.2.1 q hq
  unfold payR pyW
  rw [ep]
  by_cases hc : row (7 + p) < c
  · rw [if_pos hc, if_pos hc]
    exact h
  · rw [if_neg hc, if_neg hc]
    refine h.bread hn (fun j hj => ?_) (fun j hj => ?_) (fun k hk => ?_)
    · rw [vu_o _ _ (by omega), vu_o _ _ (by omega)]
    · rw [vu_o _ _ (by omega), vu_o _ _ (by omega)]
    · have e2 : va_up w (4 * p + 1) (row (7 + p) - c) (4 * q + 1) = va_up row (7 + p) (row (7 + p) - c) (7 + q) := by
        by_cases z : q = p
        · rw [z, vu_s, vu_s]
        · rw [vu_o _ _ (by omega), vu_o _ _ (by omega)]
          exact eq
      by_cases z : k = q
      · rw [z, vu_s, vu_s, e2]
      · rw [vu_o (k := 4 * q + 1) _ _ (by omega), vu_o (k := 7 + q) _ _ (by omega)]
        by_cases z2 : k = p
        · rw [z2, vu_s, vu_s]
        · rw [vu_o _ _ (by omega), vu_o _ _ (by omega)]
          exact h.2.2.1 k hk
theorem pyW_o {w : Nat → Int32} {p q : Nat} {c : Int32} {j : Nat} (h : 28 ≤ j ∨ ¬ j % 4 = 1) (hp : p < 7) (hq : q < 7) : pyW w p q c j = w j := by
  unfold pyW
  split
  · rfl
  · rw [vu_o _ _ (by omega), vu_o _ _ (by omega)]
