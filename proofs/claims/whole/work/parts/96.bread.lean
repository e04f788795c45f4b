/-! BREAD AND WHAT IS LEARNT stay within bounds -/
def smB (b : Nat → Nat) : Nat → Nat
  | 0 => 0
  | k + 1 => smB b k + b k
theorem smB_congr {b b' : Nat → Nat} : ∀ (N : Nat), (∀ q, q < N → b q = b' q) → smB b N = smB b' N := by
  intro N
  induction N with
  | zero => intro _; rfl
  | succ k ih =>
    intro h
    rw [smB, smB, ih (fun q hq => h q (by omega)), h k (by omega)]
theorem smB_up {b : Nat → Nat} {k x : Nat} : ∀ (N : Nat), k < N → smB (va_up b k x) N + b k = smB b N + x := by
  intro N
  induction N with
  | zero => intro h; omega
  | succ m ih =>
    intro h
    rw [smB, smB]
    by_cases hm : k = m
    · subst hm
      rw [vu_s, smB_congr (b := va_up b k x) (b' := b) k (fun q hq => vu_o _ _ (by omega))]
      omega
    · rw [vu_o _ _ (Ne.symm hm)]
      have := ih (by omega)
      omega
theorem smB_ge {b : Nat → Nat} {k : Nat} : ∀ (N : Nat), k < N → b k ≤ smB b N := by
  intro N
  induction N with
  | zero => intro h; omega
  | succ m ih =>
    intro h
    rw [smB]
    by_cases hm : k = m
    · subst hm; omega
    · have := ih (by omega)
      omega
/-- bread by numbers -/
def BDb (n : Nat) (row : Nat → Int32) (b : Nat → Nat) : Prop := ∀ p, p < n → row (7 + p) = nI (b p)
theorem BDb.pay {n p q C : Nat} {row : Nat → Int32} {b : Nat → Nat} (h : BDb n row b) (hp : p < n) (hq : q < n) (hs : smB b n ≤ 700) (hC : C ≤ 9) : ∃ b', BDb n (payR row p q (nI C)) b' ∧ smB b' n = smB b n ∧ b q ≤ b' q := by
  have h1 := smB_ge (b := b) n hp
  unfold payR
  rw [h p hp]
  by_cases hc : nI (b p) < nI C
  · rw [if_pos hc]
    exact ⟨b, h, rfl, Nat.le_refl _⟩
  · rw [if_neg hc]
    rw [nI_ltI (by omega) (by omega)] at hc
    rw [pk_sub (by omega)]
    have e1 : BDb n (va_up row (7 + p) (nI (b p - C))) (va_up b p (b p - C)) := fun k hk => by
      by_cases z : k = p
      · rw [z, vu_s, vu_s]
      · rw [vu_o _ _ (by omega), vu_o _ _ z]
        exact h k hk
    have e2 := e1 q hq
    rw [e2, nI_add]
    refine ⟨va_up (va_up b p (b p - C)) q (va_up b p (b p - C) q + C), fun k hk => ?_, ?_, ?_⟩
    · by_cases z : k = q
      · rw [z, vu_s, vu_s]
      · rw [vu_o (k := 7 + q) _ _ (by omega), vu_o (k := q) _ _ z]
        exact e1 k hk
    · have s1 := smB_up (b := b) (k := p) (x := b p - C) n hp
      have s2 := smB_up (b := va_up b p (b p - C)) (k := q) (x := va_up b p (b p - C) q + C) n hq
      omega
    · rw [vu_s]
      by_cases z : q = p
      · rw [z, vu_s]; omega
      · rw [vu_o _ _ z]; omega
theorem BDb.he {n te v C : Nat} {bits : Int32} (hte : te < n) (hn : n ≤ 7) (hC : C ≤ 9) (hb : ∀ q, n ≤ q → q < 7 → bt bits q = false) : ∀ (m p : Nat) (x : (Nat → Int32) × (Nat → Int32)) (b : Nat → Nat), p + m ≤ 7 → BDb n x.2 b → smB b n ≤ 700 → ∃ b', BDb n (heR bits v te (nI C) m p x).2 b' ∧ smB b' n = smB b n ∧ b te ≤ b' te := by
  intro m
  induction m with
  | zero => intro p x b _ h hs; exact ⟨b, h, rfl, Nat.le_refl _⟩
  | succ m ih =>
    intro p x b hp h hs
    rw [heR]
    by_cases hbit : bits >>> (nI p &&& 31) &&& 1 = 1
    · have hpn : p < n := by
        have := (b_test (by omega)).mp hbit
        refine Decidable.byContradiction (fun z => ?_)
        rw [hb p (by omega) (by omega)] at this
        cases this
      have e : heS bits v te (nI C) p x = (va_up x.1 p (x.1 p ||| (1 <<< (nI v &&& 31))), payR (va_up x.2 (21 + p) (x.2 (21 + p) ||| (1 <<< (nI v &&& 31)))) p te (nI C)) := by unfold heS; rw [if_pos hbit]
      have h' : BDb n (va_up x.2 (21 + p) (x.2 (21 + p) ||| (1 <<< (nI v &&& 31)))) b := fun k hk => by rw [vu_o _ _ (by omega)]; exact h k hk
      obtain ⟨b1, g1, g2, g3⟩ := h'.pay hpn hte hs hC
      rw [e]
      obtain ⟨b2, k1, k2, k3⟩ := ih (p + 1) (va_up x.1 p (x.1 p ||| (1 <<< (nI v &&& 31))), payR (va_up x.2 (21 + p) (x.2 (21 + p) ||| (1 <<< (nI v &&& 31)))) p te (nI C)) b1 (by omega) g1 (by omega)
      exact ⟨b2, k1, by omega, by omega⟩
    · have e : heS bits v te (nI C) p x = x := by unfold heS; rw [if_neg hbit]
      rw [e]
      exact ih (p + 1) x b (by omega) h hs
theorem hrR_hi {st row : Nat → Int32} {fr n p : Nat} {s : Nat → Nat} (hn : n ≤ 7) (hs : ∀ c, c < n → row c = nI (s c) ∧ s c < n) (hp : n ≤ p) (hp2 : p < 32) : bt (hrR st row fr n 0 0) p = false := by
  cases hb : bt (hrR st row fr n 0 0) p with
  | false => rfl
  | true =>
    rw [hrR_bit (s := s) hp2 n 0 0 (fun j _ h => ⟨(hs j (by omega)).1, by have := (hs j (by omega)).2; omega⟩)] at hb
    rcases hb with h1 | ⟨j, -, h2, h3, h4, h5⟩
    · rw [b_0] at h1; cases h1
    · have := (hs j (by omega)).2
      omega
section BREADS
variable {hi : Nat → Nat → Int32} {f : Nat} {lw : Option Nat} {sz n ev wi : Nat} {s : Nat → Nat}
theorem BDb.ta {te C W : Nat} {hold : Bool} (hn : n ≤ 7) (hte : te < n) (hC : C ≤ 9) (hs : ∀ c, c < n → s c < n) (hW : hi (f + 1) 2 = nI W) (hW99 : W ≤ 99) (hkn : ∀ e, e < ev → ∃ k, k ≤ 9 ∧ hi (f + 3) (e * 2) = nI k) :
    ∀ (m v : Nat) (x : taX) (b : Nat → Nat), v + m ≤ ev → (∀ c, c < n → x.2.1 c = nI (s c)) → BDb n x.2.1 b → smB b n ≤ 700 → (hold = false → ∃ L, L ≤ 107 ∧ x.2.1 31 = nI L) →
    (∃ b', BDb n (taR hi f lw sz n s wi te (nI C) hold m v x).2.1 b' ∧ smB b' n = smB b n ∧ b te ≤ b' te) ∧ (hold = false → ∃ L, L ≤ 107 ∧ (taR hi f lw sz n s wi te (nI C) hold m v x).2.1 31 = nI L) := by
  intro m
  induction m with
  | zero => intro v x b _ _ h1 h2 h3; exact ⟨⟨b, h1, rfl, Nat.le_refl _⟩, h3⟩
  | succ m ih =>
    intro v x b hv hx h1 h2 h3
    rw [taR]
    by_cases ht : toB hi f te hold v x.2.1 = true
    · obtain ⟨B, hB⟩ : ∃ B, B = hrR (spV hi f lw sz v x.2.1 s wi) x.2.1 wi n 0 0 := ⟨_, rfl⟩
      rw [taS_eq ht hB]
      have hhi : ∀ q, n ≤ q → q < 7 → bt B q = false := fun q q1 q2 => by rw [hB]; exact hrR_hi hn (fun c hc => ⟨hx c hc, hs c hc⟩) q1 (by omega)
      obtain ⟨b1, g1, g2, g3⟩ := BDb.he (v := v) (bits := B) hte hn hC hhi 7 0 (x.1, x.2.1) b (by omega) h1 h2
      have e31 : (heR B v te (nI C) 7 0 (x.1, x.2.1)).2 31 = x.2.1 31 := heR_low (show te < 7 by omega) (Or.inr (by decide)) 7 0 _ (by omega)
      have hL : hold = false → ∃ L, L ≤ 107 ∧ va_up (heR B v te (nI C) 7 0 (x.1, x.2.1)).2 31 ((heR B v te (nI C) 7 0 (x.1, x.2.1)).2 31 + hi (f + 3) (v * 2)) 31 = nI L := fun hh => by
        obtain ⟨L, hL, eL⟩ := h3 hh
        obtain ⟨k, hk, ek⟩ := hkn v (by omega)
        rw [vu_s, e31, eL, ek, nI_add]
        refine ⟨L + k, ?_, rfl⟩
        unfold toB at ht
        rw [hh, Bool.false_or] at ht
        simp only [Bool.and_eq_true, decide_eq_true_eq] at ht
        have := ht.2
        rw [eL, hW, nI_ltI (by omega) (by omega)] at this
        omega
      have q1 : ∀ c, c < n → va_up (heR B v te (nI C) 7 0 (x.1, x.2.1)).2 31 ((heR B v te (nI C) 7 0 (x.1, x.2.1)).2 31 + hi (f + 3) (v * 2)) c = nI (s c) := fun c hc => by
        rw [vu_o _ _ (by omega), heR_low (show te < 7 by omega) (Or.inl (by omega)) 7 0 _ (by omega)]
        exact hx c hc
      have q2 : BDb n (va_up (heR B v te (nI C) 7 0 (x.1, x.2.1)).2 31 ((heR B v te (nI C) 7 0 (x.1, x.2.1)).2 31 + hi (f + 3) (v * 2))) b1 := fun p hp => by
        rw [vu_o _ _ (by omega)]
        exact g1 p hp
      obtain ⟨⟨b2, k1, k2, k3⟩, k4⟩ := ih (v + 1) ((heR B v te (nI C) 7 0 (x.1, x.2.1)).1, va_up (heR B v te (nI C) 7 0 (x.1, x.2.1)).2 31 ((heR B v te (nI C) 7 0 (x.1, x.2.1)).2 31 + hi (f + 3) (v * 2)), x.2.2 + bc B) b1 (by omega) q1 q2 (by omega) hL
      exact ⟨⟨b2, k1, by omega, by omega⟩, k4⟩
    · have e : taS hi f lw sz n s wi te (nI C) hold v x = x := by unfold taS; rw [if_neg ht]
      rw [e]
      exact ih (v + 1) x b (by omega) hx h1 h2 h3
end BREADS
/-- a row is within its bounds -/
def ROk (n : Nat) (row : Nat → Int32) : Prop := (∃ b, BDb n row b ∧ smB b n ≤ 700) ∧ ∃ L, L ≤ 107 ∧ row 31 = nI L
theorem ROk.ext {n : Nat} {row row' : Nat → Int32} (h : ROk n row) (h1 : ∀ p, p < n → row' (7 + p) = row (7 + p)) (h2 : row' 31 = row 31) : ROk n row' := by
  obtain ⟨⟨b, g1, g2⟩, L, g3, g4⟩ := h
  exact ⟨⟨b, fun p hp => (h1 p hp).trans (g1 p hp), g2⟩, L, g3, h2.trans g4⟩
/-- what a fort's numbers are -/
theorem RF.nums {hi : Nat → Nat → Int32} {f : Nat} {lw : Option Nat} {sz n ev wi : Nat} (hF : RF hi f lw sz n ev wi) : (∃ W, W ≤ 99 ∧ hi (f + 1) 2 = nI W) ∧ (∃ C, C ≤ 9 ∧ hi (f + 1) 3 = nI C) ∧ (∀ e, e < ev → ∃ k, k ≤ 9 ∧ hi (f + 3) (e * 2) = nI k) := by
  obtain ⟨b1, b2, b3⟩ := hF.2.2.2.1
  refine ⟨nI_of2 (M := 99) (n := 99) rfl (fun z => ?_) (b1 2 (by decide)).2, nI_of2 (M := 9) (n := 9) rfl (fun z => ?_) (b1 3 (by decide)).2, fun e he => nI_of2 (M := 9) (n := 9) rfl (fun z => ?_) (b3 e 0 he (by decide)).2⟩
  · have h := (b1 2 (by decide)).1
    rw [Int32.le_iff_toInt_le, show (fLo 0 2).toInt = 1 by decide] at h
    rw [Int32.lt_iff_toInt_lt, show (0 : Int32).toInt = 0 from rfl] at z
    omega
  · have h := (b1 3 (by decide)).1
    rw [Int32.le_iff_toInt_le, show (fLo 0 3).toInt = 0 by decide] at h
    rw [Int32.lt_iff_toInt_lt, show (0 : Int32).toInt = 0 from rfl] at z
    omega
  · have h : fLo 2 0 ≤ hi (f + 3) (e * 2) := (b3 e 0 he (by decide)).1
    rw [Int32.le_iff_toInt_le, show (fLo 2 0).toInt = 1 by decide] at h
    rw [Int32.lt_iff_toInt_lt, show (0 : Int32).toInt = 0 from rfl] at z
    omega
section ROKS
variable {hi : Nat → Nat → Int32} {f : Nat} {lw : Option Nat} {sz n ev wi : Nat} {row w : Nat → Int32}
/-- nobody loses by telling -/
theorem gn_ge {C : Nat} (hF : RF hi f lw sz n ev wi) (hw : RW n row w) (hr : ROk n row) (hC : C ≤ 9) : -1 < gnV hi f lw sz n ev wi (nI C) row := by
  have hn := hF.2.1.1
  have hwi := hF.2.1.2.2.2.1
  obtain ⟨⟨W, hW, eW⟩, -, hkn⟩ := hF.nums
  obtain ⟨⟨b, h1, h2⟩, -⟩ := hr
  obtain ⟨s1, s2, s3⟩ := hw.s hn hwi
  obtain ⟨⟨b', k1, k2, k3⟩, -⟩ := BDb.ta (hi := hi) (f := f) (lw := lw) (sz := sz) (n := n) (ev := ev) (wi := wi) (s := sOf row) (te := sOf row wi) (hold := true) hn s1 hC (fun c hc => (hw.s hn hc).1) eW hW hkn ev 0 (fun _ => 0, row, 0) b (by omega) (fun c hc => (hw.s hn hc).2.1) h1 h2 (fun z => absurd z (by decide))
  have h5 := smB_ge (b := b') n s1
  unfold gnV tellR
  rw [k1 _ s1, h1 _ s1, pk_sub k3, Int32.lt_iff_toInt_lt, nI_toInt (by omega), show (-1 : Int32).toInt = -1 from rfl]
  omega
/-- a step keeps a row within its bounds -/
theorem chg_rok {kd fi se : Int32} (hF : RF hi f lw sz n ev wi) (hw : RW n row w) (hr : ROk n row) (hcb : canB hi f row n kd fi se = true) : ROk n (chg hi f lw sz n ev (sOf row) wi row kd fi se) := by
  have hn := hF.2.1.1
  have hn1 := hF.2.1.2.1
  have hwi := hF.2.1.2.2.2.1
  unfold chg
  by_cases h0 : kd = 0
  · rw [if_pos h0]
    exact hr.ext (fun p hp => vu_o _ _ (by omega)) (vu_o _ _ (by decide))
  · rw [if_neg h0]
    by_cases h1 : kd = 1
    · rw [if_pos h1]
      exact hr.ext (fun p hp => swR_high hn (by omega)) (swR_high hn (by omega))
    · rw [if_neg h1]
      by_cases h2 : kd = 2
      · rw [if_pos h2]
        obtain ⟨⟨W, hW, eW⟩, ⟨C, hC, eC⟩, hkn⟩ := hF.nums
        obtain ⟨⟨b, g1, g2⟩, hL⟩ := hr
        obtain ⟨s1, s2, s3⟩ := hw.s hn hwi
        obtain ⟨⟨b', k1, k2, k3⟩, k4⟩ := BDb.ta (hi := hi) (f := f) (lw := lw) (sz := sz) (n := n) (ev := ev) (wi := wi) (s := sOf row) (te := sOf row wi) (hold := false) hn s1 hC (fun c hc => (hw.s hn hc).1) eW hW hkn ev 0 (fun _ => 0, row, 0) b (by omega) (fun c hc => (hw.s hn hc).2.1) g1 g2 (fun _ => hL)
        rw [← eC] at k1 k4
        obtain ⟨L, hL1, hL2⟩ := k4 rfl
        have hA : ∀ (R : Nat → Int32) (te : Nat) (hd : Int32) (j : Nat), te < 7 → (j < 21 ∨ j = 31) → wtR R te hd n j = R j := by
          intro R te hd j hte h1
          unfold wtR wtA
          rw [vu_o _ _ (by omega), vu_o _ _ (by omega)]
          rw [if_neg (by omega), vu_o _ _ (by omega)]
        refine ⟨⟨b', fun p hp => ?_, by omega⟩, L, hL1, ?_⟩
        · rw [hA _ _ _ _ (by omega) (by omega)]
          exact k1 p hp
        · rw [hA _ _ _ _ (by omega) (by omega)]
          exact hL2
      · rw [if_neg h2]
        by_cases h3 : kd = 3
        · rw [if_pos h3]
          have hb : decide (2 ≤ row (7 + riR (fun i => row (7 + i)) (n - 1) 1 0)) = true := by
            unfold canB at hcb
            rw [if_neg h0, if_neg h1, if_neg h2, if_pos h3] at hcb
            simp only [Bool.and_eq_true] at hcb
            exact hcb.2
          have hb := of_decide_eq_true hb
          have hri : riR (fun i => row (7 + i)) (n - 1) 1 0 < n := by
            have := riR_lt (b := fun i => row (7 + i)) (n - 1) 1 0 (Or.inr rfl) (by omega)
            omega
          generalize riR (fun i => row (7 + i)) (n - 1) 1 0 = p at hb hri ⊢
          obtain ⟨⟨b, g1, g2⟩, -⟩ := hr
          have hsp := smB_ge (b := b) n hri
          rw [g1 p hri, show (2 : Int32) = nI 2 from rfl, nI_leI (by omega) (by omega)] at hb
          have hup := smB_up (b := b) (k := p) (x := b p - 2) n hri
          refine ⟨⟨va_up b p (b p - 2), fun k hk => ?_, by omega⟩, 0, by omega, ?_⟩
          · rw [vu_o _ _ (by omega)]
            by_cases z : k = p
            · rw [z, vu_s, vu_s, g1 p hri, show (2 : Int32) = nI 2 from rfl, pk_sub hb]
            · rw [vu_o _ _ (by omega), vu_o _ _ z]
              exact g1 k hk
          · rw [vu_s]
            rfl
        · rw [if_neg h3]
          exact hr.ext (fun p hp => edR_low (by omega)) rfl
theorem ed_rok (hr : ROk n row) (hn : n ≤ 7) : ROk n (edR row) := hr.ext (fun p hp => edR_low (by omega)) rfl
end ROKS
