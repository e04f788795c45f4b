/-! THE REFERENCE: beliefs -/
def spR (by' : Nat → Int32) : Nat → Nat → Int32 → Int32
  | 0, _, b => b
  | m + 1, k, b => spR by' m (k + 1) (b ||| (1 <<< (by' k &&& 31)))
theorem spR_bit {by' : Nat → Int32} {i : Nat} (hi : i < 32) : ∀ (m k : Nat) (b : Int32), (∀ j, k ≤ j → j < k + m → ∃ p, p < 7 ∧ by' j = nI p) → (bt (spR by' m k b) i = true ↔ (bt b i = true ∨ ∃ j, k ≤ j ∧ j < k + m ∧ by' j = nI i)) := by
  intro m
  induction m with
  | zero =>
    intro k b _
    rw [spR]
    constructor
    · exact Or.inl
    · rintro (h | ⟨j, h1, h2, -⟩)
      · exact h
      · omega
  | succ m ih =>
    intro k b hb
    rw [spR, ih (k + 1) _ (fun j h1 h2 => hb j (by omega) (by omega))]
    obtain ⟨p, hp, e⟩ := hb k (Nat.le_refl _) (by omega)
    rw [b_or, e, b_one (by omega) hi, Bool.or_eq_true, decide_eq_true_eq]
    constructor
    · rintro ((h1 | h1) | ⟨j, h1, h2, h3⟩)
      · exact Or.inl h1
      · exact Or.inr ⟨k, Nat.le_refl _, by omega, by rw [e, h1]⟩
      · exact Or.inr ⟨j, by omega, by omega, h3⟩
    · rintro (h1 | ⟨j, h1, h2, h3⟩)
      · exact Or.inl (Or.inl h1)
      · by_cases hj : j = k
        · subst hj
          exact Or.inl (Or.inr ((nI_eq (by omega) (by omega)).mp (h3.symm.trans e)))
        · exact Or.inr ⟨j, by omega, by omega, h3⟩
theorem ne0_bit {x : Int32} : ¬ x = 0 ↔ ∃ i, i < 32 ∧ bt x i = true := by
  constructor
  · intro h
    refine Decidable.byContradiction (fun hno => h (b_ext (fun i hi => ?_)))
    rw [b_0]
    cases hb : bt x i with
    | false => rfl
    | true => exact absurd ⟨i, hi, hb⟩ hno
  · rintro ⟨i, hi, h⟩ hz
    rw [hz, b_0] at h
    cases h
theorem SaR.spoke {hc hr : Nat → Nat → Int32} {n ev sa : Nat} (h : SaR hc hr n ev sa) (hn : n ≤ 7) (hev : ev ≤ 6) {p : Nat} (hp : p < 7) : bt (spR (hr 75) sa 0 0) p = true ↔ ¬ hc 55 p ||| hc 56 p = 0 := by
  obtain ⟨h1, h2, h3, h4, h5, h6⟩ := h
  rw [spR_bit (by omega) sa 0 0 (fun j _ h => by obtain ⟨p, v, hp, -, e, -⟩ := h4 j (by omega); exact ⟨p, by omega, e⟩), ne0_bit]
  constructor
  · rintro (z | ⟨j, -, hj, e1⟩)
    · rw [b_0] at z; cases z
    · obtain ⟨q, v, hq, hv, k1, k2, k3⟩ := h4 j (by omega)
      refine ⟨v, by omega, ?_⟩
      rw [b_or, Bool.or_eq_true]
      rcases k3 with k3 | k3
      · exact Or.inr ((h6 p v hp (by omega)).mpr ⟨j, by omega, e1, k2, k3⟩)
      · exact Or.inl ((h5 p v hp (by omega)).mpr ⟨j, by omega, e1, k2, k3⟩)
  · rintro ⟨i, hi, hb⟩
    rw [b_or, Bool.or_eq_true] at hb
    rcases hb with hb | hb
    · obtain ⟨k, k1, k2, -⟩ := (h5 p i hp hi).mp hb
      exact Or.inr ⟨k, by omega, by omega, k2⟩
    · obtain ⟨k, k1, k2, -⟩ := (h6 p i hp hi).mp hb
      exact Or.inr ⟨k, by omega, by omega, k2⟩
/-- how likely a truth is -/
def lkX (hi : Nat → Nat → Int32) (f n ev : Nat) (w wn : Nat → Int32) (T : Nat) : Int64 := lkP (fun p => hi (f + 2) (p * 5 + 2)) w wn (nI T) n 0 (lkE (fun e => hi (f + 3) (e * 2 + 1)) (nI T) ev 0 1)
def rbV (pt al : Int64) : Int32 := if al = 0 then -1 else (1000 * (1000 * pt / al) + 1000 * (1000 * pt - 1000 * pt / al * al) / al).toInt32
theorem ten_l {C : Nat} (h : C ≤ 10) : (10 - nI C).toInt64 = lN (10 - C) := by
  rw [show (10 : Int32) = nI 10 from rfl, pk_sub h, nI_l (by omega)]
theorem lkE_N {ch : Nat → Int32} {tr : Int32} {N : Nat} (hch : ∀ e, e < N → ∃ C, C ≤ 10 ∧ ch e = nI C) : ∀ (m e X : Nat), e + m ≤ N → ∃ A, A ≤ X * 10 ^ m ∧ lkE ch tr m e (lN X) = lN A := by
  intro m
  induction m with
  | zero => intro e X _; exact ⟨X, by omega, rfl⟩
  | succ m ih =>
    intro e X h
    obtain ⟨C, hC, ec⟩ := hch e (by omega)
    rw [lkE]
    have step : ∀ D, D ≤ 10 → ∃ A, A ≤ X * 10 ^ (m + 1) ∧ lkE ch tr m (e + 1) (lN (X * D)) = lN A := fun D hD => by
      obtain ⟨A, hA, eA⟩ := ih (e + 1) (X * D) (by omega)
      refine ⟨A, Nat.le_trans hA ?_, eA⟩
      rw [Nat.pow_succ, Nat.mul_comm (10 ^ m) 10, ← Nat.mul_assoc]
      exact Nat.mul_le_mul_right _ (Nat.mul_le_mul_left _ hD)
    rw [ec]
    split
    · rw [nI_l (by omega), lN_mul]
      exact step C hC
    · rw [ten_l hC, lN_mul]
      exact step (10 - C) (by omega)
theorem lkP_N {ho w wn : Nat → Int32} {tr : Int32} {N : Nat} (hho : ∀ p, p < N → ∃ C, C ≤ 10 ∧ ho p = nI C) : ∀ (m p X : Nat), p + m ≤ N → ∃ A, A ≤ X * 10 ^ m ∧ lkP ho w wn tr m p (lN X) = lN A := by
  intro m
  induction m with
  | zero => intro p X _; exact ⟨X, by omega, rfl⟩
  | succ m ih =>
    intro p X h
    obtain ⟨C, hC, ec⟩ := hho p (by omega)
    rw [lkP]
    have step : ∀ D, D ≤ 10 → ∃ A, A ≤ X * 10 ^ (m + 1) ∧ lkP ho w wn tr m (p + 1) (lN (X * D)) = lN A := fun D hD => by
      obtain ⟨A, hA, eA⟩ := ih (p + 1) (X * D) (by omega)
      refine ⟨A, Nat.le_trans hA ?_, eA⟩
      rw [Nat.pow_succ, Nat.mul_comm (10 ^ m) 10, ← Nat.mul_assoc]
      exact Nat.mul_le_mul_right _ (Nat.mul_le_mul_left _ hD)
    rw [ec]
    split
    · have := step 1 (by omega)
      rw [Nat.mul_one] at this
      exact this
    · split
      · rw [ten_l hC, lN_mul]
        exact step (10 - C) (by omega)
      · rw [nI_l (by omega), lN_mul]
        exact step C hC
theorem blR_N {g : Nat → Int64} {e : Int32} {W : Nat} : ∀ (m T A B : Nat), (∀ k, k < T + m → ∃ w, w ≤ W ∧ g k = lN w) → B ≤ A → ∃ A' B', A' ≤ A + m * W ∧ B' ≤ A' ∧ blR g e m T (lN A, lN B) = (lN A', lN B') := by
  intro m
  induction m with
  | zero => intro T A B _ h; exact ⟨A, B, by omega, h, rfl⟩
  | succ m ih =>
    intro T A B hg h
    obtain ⟨w, hw, ew⟩ := hg T (by omega)
    rw [blR, ew, lN_add]
    have e2 : (lN A, lN B).2 + (if nI T >>> (e &&& 31) &&& 1 = 1 then lN w else 0) = lN (B + (if nI T >>> (e &&& 31) &&& 1 = 1 then w else 0)) := by
      split
      · exact lN_add _ _
      · exact lN_add B 0
    rw [e2]
    obtain ⟨A', B', h1, h2, h3⟩ := ih (T + 1) (A + w) (B + (if nI T >>> (e &&& 31) &&& 1 = 1 then w else 0)) (fun k hk => hg k (by omega)) (by split <;> omega)
    refine ⟨A', B', ?_, h2, h3⟩
    rw [Nat.succ_mul]
    omega
theorem poR_N {A : Nat} (hA0 : 0 < A) (hA : A ≤ 10 ^ 15) : ∀ (m q r : Nat), r < A → poR (lN A) m (nI q, lN r) = nI (q * 10 ^ m + r * 10 ^ m / A) := by
  intro m
  induction m with
  | zero =>
    intro q r hr
    rw [poR]
    show nI q = _
    rw [Nat.pow_zero, Nat.mul_one, Nat.mul_one, Nat.div_eq_of_lt hr, Nat.add_zero]
  | succ m ih =>
    intro q r hr
    rw [poR]
    show poR (lN A) m (10 * nI q + (lN r * 10 / lN A).toInt32, lN r * 10 - lN r * 10 / lN A * lN A) = _
    have e1 : lN r * 10 = lN (r * 10) := lN_mul r 10
    have e2 : lN (r * 10) / lN A = lN (r * 10 / A) := pk_lDiv (by omega) hA0 (by omega)
    have e3 : lN (r * 10) - lN (r * 10) / lN A * lN A = lN (r * 10 % A) := pk_lRem (by omega) hA0 (by omega)
    rw [e1, e3, e2, lN_i, show (10 : Int32) = nI 10 from rfl, pk_mul, nI_add, ih _ _ (Nat.mod_lt _ hA0)]
    congr 1
    have hd := Nat.div_add_mod (r * 10) A
    have h10 : r * 10 ^ (m + 1) = r * 10 % A * 10 ^ m + A * (r * 10 / A * 10 ^ m) := by
      rw [Nat.pow_succ, Nat.mul_comm (10 ^ m) 10, ← Nat.mul_assoc, ← hd, Nat.add_mul, Nat.mul_assoc, Nat.add_comm]
      rw [hd]
    rw [h10, Nat.add_mul_div_left _ _ hA0, Nat.pow_succ, Nat.add_mul]
    have : 10 * q * 10 ^ m = q * (10 ^ m * 10) := by
      rw [Nat.mul_comm 10 q, Nat.mul_assoc, Nat.mul_comm 10]
    omega
theorem bel_eq {A B : Nat} (hA : A ≤ 10 ^ 15) (hB : B ≤ A) : poV (lN B) (lN A) = rbV (lN B) (lN A) := by
  unfold poV rbV
  by_cases h0 : A = 0
  · subst h0
    rw [if_neg (by decide), if_pos (by rfl)]
  · have hA0 : 0 < A := by omega
    rw [if_pos (show 0 < lN A from (pk_lLT (a := 0) (b := A) (by omega) (by omega)).mpr hA0), if_neg (show ¬ lN A = 0 from fun z => h0 ((pk_lEQ (a := A) (b := 0) (by omega) (by omega)).mp z))]
    have e1 : (1000 : Int64) * lN B = lN (1000 * B) := lN_mul 1000 B
    have e2 : lN (1000 * B) / lN A = lN (1000 * B / A) := pk_lDiv (by omega) hA0 (by omega)
    have e3 : lN (1000 * B) - lN (1000 * B) / lN A * lN A = lN (1000 * B % A) := pk_lRem (by omega) hA0 (by omega)
    have hm := Nat.mod_lt (1000 * B) hA0
    have e4 : (1000 : Int64) * lN (1000 * B % A) = lN (1000 * (1000 * B % A)) := lN_mul 1000 _
    have e5 : lN (1000 * (1000 * B % A)) / lN A = lN (1000 * (1000 * B % A) / A) := pk_lDiv (by omega) hA0 (by omega)
    have e6 : (1000 : Int64) * lN (1000 * B / A) = lN (1000 * (1000 * B / A)) := lN_mul 1000 _
    rw [e1, e3, e2, e4, e5, e6, lN_add, lN_i]
    have hd := Nat.div_add_mod (1000 * B) A
    have h6 : B * 10 ^ 6 = 1000 * (1000 * B % A) + A * (1000 * (1000 * B / A)) := by
      have : A * (1000 * (1000 * B / A)) = 1000 * (A * (1000 * B / A)) := by rw [← Nat.mul_assoc, Nat.mul_comm A 1000, Nat.mul_assoc]
      rw [this]
      omega
    by_cases hlt : B < A
    · rw [if_pos ((pk_lLT (by omega) (by omega)).mpr hlt), show (0 : Int32) = nI 0 from rfl, poR_N hA0 hA 6 0 B hlt, h6, Nat.add_mul_div_left _ _ hA0, Nat.zero_mul, Nat.zero_add, Nat.add_comm]
    · obtain rfl : B = A := by omega
      rw [if_neg (fun z => hlt ((pk_lLT (by omega) (by omega)).mp z)), Nat.mul_mod_left, Nat.mul_zero, Nat.zero_div, Nat.add_zero, Nat.mul_div_cancel _ hA0]
      rfl
section REFBELIEF
variable {G : ph_G} {d f dr t n r ev wi sz lg a sa : Nat} {hi hi' hc : Nat → Nat → Int32} {hl : Nat → Nat → Int64} {Q : Option Value → ph_H → Prop} {row : Nat → Int32} {lw : Option Nat}
theorem c_rw_e {tr : Int32} {ch : Nat → Int32} (hev : ev ≤ 6) (h27 : hi 58 27 = nI ev) (hch : ∀ e, e < ev → hi 67 (e * 2 + 1) = ch e) (K : ∀ x x4, x = lkE ch tr ev 0 1 → wq G (0, 0) (d + 2) 272 62 [some (.ref 58), some (.int tr), some (.long x), none, x4, none, none] [] (0, 0) (HP hi hl f dr t) Q) :
    ∀ (m e : Nat) (x : Int64), e + m = ev → lkE ch tr ev 0 1 = lkE ch tr m e x →
    wq G (0, 0) (d + 2) 272 5 [some (.ref 58), some (.int tr), some (.long x), none, some (.int (nI e)), none, none] [] (0, 0) (HP hi hl f dr t) Q := by
  have ec : hI (HP hi hl f dr t) 58 27 = nI ev := h27
  intro m
  induction m with
  | zero =>
    intro e x hm hx
    obtain rfl : e = ev := by omega
    refine wq_iload q272_5 rfl ?_
    refine wq_aload_n q272_7 rfl ?_
    refine wq_getI q272_8 rfl rfl ?_
    refine wq_icmp_ge q272_11 (fun c11 => ?_) (fun c11 => ?_)
    · exact K x _ hx.symm
    · rw [ec] at c11
      exact absurd (nI_le (Nat.le_refl _) (by omega)) c11
  | succ m ih =>
    intro e x hm hx
    have ee : hI (HP hi hl f dr t) 67 (e * 2 + 1) = ch e := hch e (by omega)
    rw [lkE] at hx
    refine wq_iload q272_5 rfl ?_
    refine wq_aload_n q272_7 rfl ?_
    refine wq_getI q272_8 rfl rfl ?_
    refine wq_icmp_ge q272_11 (fun c11 => ?_) (fun c11 => ?_)
    · rw [ec, nI_leI (by omega) (by omega)] at c11
      omega
    · refine wq_lload_n q272_14 rfl ?_
      refine wq_iload_n q272_15 rfl ?_
      refine wq_iload q272_16 rfl ?_
      refine cS' (As := [_, _]) q272_18 m_171 rfl rfl rfl (c_rhas ?_)
      refine wq_if_eq q272_21 (fun c21 => ?_) (fun c21 => ?_)
      · have c := i01 c21
        rw [if_neg (show ¬ tr >>> (nI e &&& 31) &&& 1 = 1 from of_decide_eq_false c)] at hx
        refine wq_bipush q272_39 ?_
        refine wq_aload_n q272_41 rfl ?_
        refine wq_getR q272_42 rfl rfl rfl ?_
        refine wq_iconst q272_45 ?_
        refine wq_iload q272_46 rfl ?_
        refine wq_imul q272_48 ?_
        refine wq_iconst q272_49 ?_
        refine wq_iadd q272_50 ?_
        refine aI q272_51 rfl (iv1 e) (by show e * 2 + 1 < 12; omega) (by first | decide | omega) ?_
        rw [ee]
        refine wq_isub q272_52 ?_
        refine wq_i2l q272_53 ?_
        refine wq_lmul q272_54 ?_
        refine wq_lstore_n (ls' := [_, _, _, _, _, _, _]) q272_55 rfl ?_
        refine wq_iinc (ls' := [_, _, _, _, _, _, _]) q272_56 rfl rfl ?_
        refine wq_goto q272_59 ?_
        rw [nI_1]
        exact ih (e + 1) _ (by omega) hx
      · have c := i10 c21
        rw [if_pos (show tr >>> (nI e &&& 31) &&& 1 = 1 from of_decide_eq_true c)] at hx
        refine wq_aload_n q272_24 rfl ?_
        refine wq_getR q272_25 rfl rfl rfl ?_
        refine wq_iconst q272_28 ?_
        refine wq_iload q272_29 rfl ?_
        refine wq_imul q272_31 ?_
        refine wq_iconst q272_32 ?_
        refine wq_iadd q272_33 ?_
        refine aI q272_34 rfl (iv1 e) (by show e * 2 + 1 < 12; omega) (by first | decide | omega) ?_
        rw [ee]
        refine wq_i2l q272_35 ?_
        refine wq_goto q272_36 ?_
        refine wq_lmul q272_54 ?_
        refine wq_lstore_n (ls' := [_, _, _, _, _, _, _]) q272_55 rfl ?_
        refine wq_iinc (ls' := [_, _, _, _, _, _, _]) q272_56 rfl rfl ?_
        refine wq_goto q272_59 ?_
        rw [nI_1]
        exact ih (e + 1) _ (by omega) hx
theorem c_rw_s {tr : Int32} {x : Int64} (hs : SaR hc hi n ev sa) (K : ∀ b x5, b = spR (hi 75) sa 0 0 → wq G (0, 0) (d + 2) 272 97 [some (.ref 58), some (.int tr), some (.long x), none, some (.int b), x5, none] [] (0, 0) (HP hi hl f dr t) Q) :
    ∀ (m k : Nat) (b : Int32), k + m = sa → spR (hi 75) sa 0 0 = spR (hi 75) m k b →
    wq G (0, 0) (d + 2) 272 68 [some (.ref 58), some (.int tr), some (.long x), none, some (.int b), some (.int (nI k)), none] [] (0, 0) (HP hi hl f dr t) Q := by
  have ec : hI (HP hi hl f dr t) 58 45 = nI sa := hs.2.1
  have h16 := hs.2.2.1
  intro m
  induction m with
  | zero =>
    intro k b hm hb
    obtain rfl : k = sa := by omega
    refine wq_iload q272_68 rfl ?_
    refine wq_aload_n q272_70 rfl ?_
    refine wq_getI q272_71 rfl rfl ?_
    refine wq_icmp_ge q272_74 (fun c74 => ?_) (fun c74 => ?_)
    · exact K b _ hb.symm
    · rw [ec] at c74
      exact absurd (nI_le (Nat.le_refl _) (by omega)) c74
  | succ m ih =>
    intro k b hm hb
    rw [spR] at hb
    refine wq_iload q272_68 rfl ?_
    refine wq_aload_n q272_70 rfl ?_
    refine wq_getI q272_71 rfl rfl ?_
    refine wq_icmp_ge q272_74 (fun c74 => ?_) (fun c74 => ?_)
    · rw [ec, nI_leI (by omega) (by omega)] at c74
      omega
    · refine wq_iload q272_77 rfl ?_
      refine wq_iconst q272_79 ?_
      refine wq_aload_n q272_80 rfl ?_
      refine wq_getR q272_81 rfl rfl rfl ?_
      refine wq_iload q272_84 rfl ?_
      refine aI q272_86 rfl (rfl) (by show k < 16; omega) (by first | decide | omega) ?_
      refine wq_ishl q272_87 ?_
      refine wq_ior q272_88 ?_
      refine wq_istore (ls' := [_, _, _, _, _, _, _]) q272_89 rfl ?_
      refine wq_iinc (ls' := [_, _, _, _, _, _, _]) q272_91 rfl rfl ?_
      refine wq_goto q272_94 ?_
      rw [nI_1]
      exact ih (k + 1) _ (by omega) hb
theorem c_rw_p {tr sp li : Int32} {ho w wn : Nat → Int32} (hn : n ≤ 7) (h26 : hi 58 26 = nI n) (hho : ∀ p, p < n → hi 65 (p * 5 + 2) = ho p) (hsp : ∀ p, p < n → (bt sp p = true ↔ ¬ w p ||| wn p = 0)) (hli : ∀ p, p < n → bt li p = liB (w p) (wn p) tr) :
    ∀ (m p : Nat) (x : Int64), p + m = n → Q (some (.long (lkP ho w wn tr m p x))) (HP hi hl f dr t) →
    wq G (0, 0) (d + 2) 272 107 [some (.ref 58), some (.int tr), some (.long x), none, some (.int sp), some (.int li), some (.int (nI p))] [] (0, 0) (HP hi hl f dr t) Q := by
  have ec : hI (HP hi hl f dr t) 58 26 = nI n := h26
  intro m
  induction m with
  | zero =>
    intro p x hm hQ
    obtain rfl : p = n := by omega
    refine wq_iload q272_107 rfl ?_
    refine wq_aload_n q272_109 rfl ?_
    refine wq_getI q272_110 rfl rfl ?_
    refine wq_icmp_ge q272_113 (fun c113 => ?_) (fun c113 => ?_)
    · refine wq_lload_n q272_167 rfl ?_
      refine rL q272_168 ?_
      exact hQ
    · rw [ec] at c113
      exact absurd (nI_le (Nat.le_refl _) (by omega)) c113
  | succ m ih =>
    intro p x hm hQ
    rw [lkP] at hQ
    refine wq_iload q272_107 rfl ?_
    refine wq_aload_n q272_109 rfl ?_
    refine wq_getI q272_110 rfl rfl ?_
    refine wq_icmp_ge q272_113 (fun c113 => ?_) (fun c113 => ?_)
    · rw [ec, nI_leI (by omega) (by omega)] at c113
      omega
    · refine wq_iload q272_116 rfl ?_
      refine wq_iload q272_118 rfl ?_
      refine cS' (As := [_, _]) q272_120 m_171 rfl rfl rfl (c_rhas ?_)
      refine wq_if_eq q272_123 (fun c123 => ?_) (fun c123 => ?_)
      · have c := i01 c123
        rw [hsB_bt (by omega)] at c
        rw [if_pos (show w p ||| wn p = 0 from Decidable.byContradiction (fun z => by rw [(hsp p (by omega)).mpr z] at c; cases c))] at hQ
        refine wq_iinc (ls' := [_, _, _, _, _, _, _]) q272_161 rfl rfl ?_
        refine wq_goto q272_164 ?_
        rw [nI_1]
        exact ih (p + 1) x (by omega) hQ
      · have c := i10 c123
        rw [hsB_bt (by omega)] at c
        rw [if_neg (show ¬ w p ||| wn p = 0 from (hsp p (by omega)).mp c)] at hQ
        refine wq_lload_n q272_126 rfl ?_
        refine wq_iload q272_127 rfl ?_
        refine wq_iload q272_129 rfl ?_
        refine cS' (As := [_, _]) q272_131 m_171 rfl rfl rfl (c_rhas ?_)
        refine wq_if_eq q272_134 (fun c134 => ?_) (fun c134 => ?_)
        · have c' := i01 c134
          rw [hsB_bt (by omega), hli p (by omega)] at c'
          rw [if_neg (show ¬ liB (w p) (wn p) tr = true by rw [c']; decide)] at hQ
          refine wq_aload_n q272_151 rfl ?_
          refine wq_iload q272_152 rfl ?_
          refine wq_iconst q272_154 ?_
          refine cV (As := [_, _]) q272_155 m_211 rfl rfl rfl ⟨by decide, rfl⟩ rfl (c_toldH (w := 2) (by omega) (by omega) ?_)
          rw [hho p (by omega)]
          refine wq_i2l q272_158 ?_
          refine wq_lmul q272_159 ?_
          refine wq_lstore_n (ls' := [_, _, _, _, _, _, _]) q272_160 rfl ?_
          refine wq_iinc (ls' := [_, _, _, _, _, _, _]) q272_161 rfl rfl ?_
          refine wq_goto q272_164 ?_
          rw [nI_1]
          exact ih (p + 1) _ (by omega) hQ
        · have c' := i10 c134
          rw [hsB_bt (by omega), hli p (by omega)] at c'
          rw [if_pos c'] at hQ
          refine wq_bipush q272_137 ?_
          refine wq_aload_n q272_139 rfl ?_
          refine wq_iload q272_140 rfl ?_
          refine wq_iconst q272_142 ?_
          refine cV (As := [_, _]) q272_143 m_211 rfl rfl rfl ⟨by decide, rfl⟩ rfl (c_toldH (w := 2) (by omega) (by omega) ?_)
          rw [hho p (by omega)]
          refine wq_isub q272_146 ?_
          refine wq_i2l q272_147 ?_
          refine wq_goto q272_148 ?_
          refine wq_lmul q272_159 ?_
          refine wq_lstore_n (ls' := [_, _, _, _, _, _, _]) q272_160 rfl ?_
          refine wq_iinc (ls' := [_, _, _, _, _, _, _]) q272_161 rfl rfl ?_
          refine wq_goto q272_164 ?_
          rw [nI_1]
          exact ih (p + 1) _ (by omega) hQ
theorem c_weightOf {T : Nat} (hs : SaR hc hi n ev sa) (hF : RF hi f lw sz n ev wi) (hQ : Q (some (.long (lkX hi f n ev (hc 55) (hc 56) T))) (HP hi hl f dr t)) : Ct G (0, 0) (d + 2) 272 [.ref 58, .int (nI T)] (HP hi hl f dr t) Q := by
  have hn := hF.2.1.1
  have hev := hF.2.1.2.2.1
  refine Ct_of (ls := [_, _, _, _, _, _, _]) m_272.1.2.2.1 (Nat.le_of_ble_eq_true rfl) rfl ?_
  refine wq_lconst q272_0 ?_
  refine wq_lstore_n (ls' := [_, _, _, _, _, _, _]) q272_1 rfl ?_
  refine wq_iconst q272_2 ?_
  refine wq_istore (ls' := [_, _, _, _, _, _, _]) q272_3 rfl ?_
  refine c_rw_e (ch := fun e => hi (f + 3) (e * 2 + 1)) hev hF.2.2.1.2.1 (fun e he => hF.2.2.1.2.2.2.2 _ (by omega)) (fun x x4 hx => ?_) ev 0 1 (by omega) rfl
  refine wq_iconst q272_62 ?_
  refine wq_istore (ls' := [_, _, _, _, _, _, _]) q272_63 rfl ?_
  refine wq_iconst q272_65 ?_
  refine wq_istore (ls' := [_, _, _, _, _, _, _]) q272_66 rfl ?_
  refine c_rw_s hs (fun b x5 hb => ?_) sa 0 0 (by omega) rfl
  refine wq_aload_n q272_97 rfl ?_
  refine wq_iload_n q272_98 rfl ?_
  refine cV (As := [_]) q272_99 m_263 rfl rfl rfl ⟨by decide, rfl⟩ rfl (c_rliarsBy (d := d) hs hn hev ?_)
  refine wq_istore (ls' := [_, _, _, _, _, _, _]) q272_102 rfl ?_
  refine wq_iconst q272_104 ?_
  refine wq_istore (ls' := [_, _, _, _, _, _, _]) q272_105 rfl ?_
  unfold lkX at hQ
  rw [← hx] at hQ
  refine c_rw_p (ho := fun p => hi (f + 2) (p * 5 + 2)) (w := hc 55) (wn := hc 56) hn hF.2.2.1.1 (fun p hp => hF.2.2.1.2.2.2.1 _ (by omega)) (fun p hp => by rw [hb]; exact hs.spoke hn hev (by omega)) (fun p hp => ?_) n 0 x (by omega) hQ
  rw [lbR_bit (by omega) 7 0 0 (by omega), b_0, Bool.false_or, decide_eq_true (by omega), Bool.true_and]
theorem c_rbel_loop {e : Nat} (he : e < 31) (hs : SaR hc hi n ev sa) (hF : RF hi f lw sz n ev wi) (K : ∀ x x6 x7 x8 x9, x = blR (lkX hi f n ev (hc 55) (hc 56)) (nI e) (2 ^ ev) 0 (0, 0) → wq G (0, 0) (d + 3) 273 71 [some (.ref 58), some (.int (nI e)), some (.long x.1), none, some (.long x.2), none, x6, x7, x8, x9] [] (0, 0) (HP hi hl f dr t) Q) :
    ∀ (m T : Nat) (x : Int64 × Int64) (x7 : Option Value), T + m = 2 ^ ev → blR (lkX hi f n ev (hc 55) (hc 56)) (nI e) (2 ^ ev) 0 (0, 0) = blR (lkX hi f n ev (hc 55) (hc 56)) (nI e) m T x →
    wq G (0, 0) (d + 3) 273 23 [some (.ref 58), some (.int (nI e)), some (.long x.1), none, some (.long x.2), none, some (.int (nI T)), x7, none, none] [] (0, 0) (HP hi hl f dr t) Q := by
  have hev := hF.2.1.2.2.1
  have h27 := hF.2.2.1.2.1
  have h64 := pw6 hev
  intro m
  induction m with
  | zero =>
    intro T x x7 hm hx
    refine wq_iload q273_23 rfl ?_
    refine wq_aload_n q273_25 rfl ?_
    refine cV (As := []) q273_26 m_264 rfl rfl rfl ⟨by decide, rfl⟩ rfl (c_truthMany hev h27 ?_)
    refine wq_icmp_ge q273_29 (fun c29 => ?_) (fun c29 => ?_)
    · exact K x _ _ _ _ hx.symm
    · rw [nI_leI (by omega) (by omega)] at c29
      omega
  | succ m ih =>
    intro T x x7 hm hx
    rw [blR] at hx
    refine wq_iload q273_23 rfl ?_
    refine wq_aload_n q273_25 rfl ?_
    refine cV (As := []) q273_26 m_264 rfl rfl rfl ⟨by decide, rfl⟩ rfl (c_truthMany hev h27 ?_)
    refine wq_icmp_ge q273_29 (fun c29 => ?_) (fun c29 => ?_)
    · rw [nI_leI (by omega) (by omega)] at c29
      omega
    · refine wq_aload_n q273_32 rfl ?_
      refine wq_iload q273_33 rfl ?_
      refine cV (As := [_]) q273_35 m_272 rfl rfl rfl ⟨by decide, rfl⟩ rfl (c_weightOf hs hF ?_)
      refine wq_lstore (ls' := [_, _, _, _, _, _, _, _, _, _]) q273_38 rfl ?_
      refine wq_lload_n q273_40 rfl ?_
      refine wq_lload q273_41 rfl ?_
      refine wq_ladd q273_43 ?_
      refine wq_lstore_n (ls' := [_, _, _, _, _, _, _, _, _, _]) q273_44 rfl ?_
      refine wq_lload q273_45 rfl ?_
      refine wq_iload q273_47 rfl ?_
      refine wq_iload_n q273_49 rfl ?_
      refine cS' (As := [_, _]) q273_50 m_171 rfl rfl rfl (c_rhas ?_)
      refine wq_if_eq q273_53 (fun c53 => ?_) (fun c53 => ?_)
      · have c := i01 c53
        rw [if_neg (show ¬ nI T >>> (nI e &&& 31) &&& 1 = 1 from of_decide_eq_false c)] at hx
        refine wq_lconst q273_61 ?_
        refine wq_ladd q273_62 ?_
        refine wq_lstore (ls' := [_, _, _, _, _, _, _, _, _, _]) q273_63 rfl ?_
        refine wq_iinc (ls' := [_, _, _, _, _, _, _, _, _, _]) q273_65 rfl rfl ?_
        refine wq_goto q273_68 ?_
        rw [nI_1]
        exact ih (T + 1) (x.1 + lkX hi f n ev (hc 55) (hc 56) T, x.2 + 0) _ (by omega) hx
      · have c := i10 c53
        rw [if_pos (show nI T >>> (nI e &&& 31) &&& 1 = 1 from of_decide_eq_true c)] at hx
        refine wq_lload q273_56 rfl ?_
        refine wq_goto q273_58 ?_
        refine wq_ladd q273_62 ?_
        refine wq_lstore (ls' := [_, _, _, _, _, _, _, _, _, _]) q273_63 rfl ?_
        refine wq_iinc (ls' := [_, _, _, _, _, _, _, _, _, _]) q273_65 rfl rfl ?_
        refine wq_goto q273_68 ?_
        rw [nI_1]
        exact ih (T + 1) (x.1 + lkX hi f n ev (hc 55) (hc 56) T, x.2 + lkX hi f n ev (hc 55) (hc 56) T) _ (by omega) hx
theorem c_rbelief {x : Int32} (hs : SaR hc hi n ev sa) (hF : RF hi f lw sz n ev wi) (hQ : Q (some (.int (if inB x (nI ev) = true then poV (blR (lkX hi f n ev (hc 55) (hc 56)) x (2 ^ ev) 0 (0, 0)).2 (blR (lkX hi f n ev (hc 55) (hc 56)) x (2 ^ ev) 0 (0, 0)).1 else -1))) (HP (up2 hi 58 0 0) hl f dr t)) : Ct G (0, 0) (d + 3) 273 [.ref 58, .int x] (HP hi hl f dr t) Q := by
  have hn := hF.2.1.1
  have hev := hF.2.1.2.2.1
  have h64 := pw6 hev
  have e27 : up2 hi 58 0 0 58 27 = nI ev := hF.2.2.1.2.1
  have hr0 : RS hi (up2 hi 58 0 0) := RS.upK (by decide) _
  have hF0 := hr0.mv hF
  have hs0 : SaR hc (up2 hi 58 0 0) n ev sa := hs.mvr rfl rfl rfl rfl
  have hlk : lkX (up2 hi 58 0 0) f n ev (hc 55) (hc 56) = lkX hi f n ev (hc 55) (hc 56) := by
    funext T
    unfold lkX
    rw [(hr0.fl hF).2.2.1, (hr0.fl hF).2.2.2.1]
  refine Ct_of (ls := [_, _, _, _, _, _, _, _, _, _]) m_273.1.2.2.1 (Nat.le_of_ble_eq_true rfl) rfl ?_
  refine wq_aload_n q273_0 rfl ?_
  refine wq_iconst q273_1 ?_
  refine wq_putI q273_2 rfl rfl rfl rfl ?_
  rw [hpS]
  refine wq_aload_n q273_5 rfl ?_
  refine wq_iload_n q273_6 rfl ?_
  refine cV (As := [_]) q273_7 m_210 rfl rfl rfl ⟨by decide, rfl⟩ rfl (c_risEvent ?_)
  refine wq_if_ne q273_10 (fun c10 => ?_) (fun c10 => ?_)
  · have c := i10 c10
    rw [e27] at c
    rw [if_pos c] at hQ
    obtain ⟨e, he, rfl⟩ := inB_N (m := ev) (by omega) c
    have hch : ∀ e, e < ev → ∃ C, C ≤ 10 ∧ hi (f + 3) (e * 2 + 1) = nI C := fun e he => nI_of2 (M := 10) (n := 10) rfl (fun z => by
      have h : fLo 2 1 ≤ hi (f + 3) (e * 2 + 1) := (hF.2.2.2.1.2.2 e 1 he (by decide)).1
      rw [Int32.le_iff_toInt_le, show (fLo 2 1).toInt = 0 by decide] at h
      rw [Int32.lt_iff_toInt_lt, show (0 : Int32).toInt = 0 from rfl] at z
      omega) (hF.2.2.2.1.2.2 e 1 he (by decide)).2
    have hho : ∀ p, p < n → ∃ C, C ≤ 10 ∧ hi (f + 2) (p * 5 + 2) = nI C := fun p hp => nI_of2 (M := 10) (n := 10) rfl (fun z => by
      have h : fLo 1 2 ≤ hi (f + 2) (p * 5 + 2) := (hF.2.2.2.1.2.1 p 2 hp (by decide)).1
      rw [Int32.le_iff_toInt_le, show (fLo 1 2).toInt = 0 by decide] at h
      rw [Int32.lt_iff_toInt_lt, show (0 : Int32).toInt = 0 from rfl] at z
      omega) (hF.2.2.2.1.2.1 p 2 hp (by decide)).2
    have hw13 : ∀ T, ∃ w, w ≤ 10 ^ 13 ∧ lkX hi f n ev (hc 55) (hc 56) T = lN w := by
      intro T
      unfold lkX
      obtain ⟨A, hA, eA⟩ := lkE_N (tr := nI T) hch ev 0 1 (by omega)
      rw [show lN 1 = (1 : Int64) from rfl] at eA
      rw [eA]
      obtain ⟨B, hB, eB⟩ := lkP_N (w := hc 55) (wn := hc 56) (tr := nI T) hho n 0 A (by omega)
      refine ⟨B, Nat.le_trans hB (Nat.le_trans (Nat.mul_le_mul hA (Nat.pow_le_pow_right (by decide) hn)) ?_), eB⟩
      rw [Nat.one_mul, ← Nat.pow_add]
      exact Nat.pow_le_pow_right (by decide) (by omega)
    obtain ⟨A, B, hA, hB, eAB⟩ := blR_N (g := lkX hi f n ev (hc 55) (hc 56)) (e := nI e) (W := 10 ^ 13) (2 ^ ev) 0 0 0 (fun k _ => hw13 k) (Nat.le_refl _)
    rw [show lN 0 = (0 : Int64) from rfl] at eAB
    have hA15 : A ≤ 10 ^ 15 := by
      have : 2 ^ ev * 10 ^ 13 ≤ 64 * 10 ^ 13 := Nat.mul_le_mul_right _ h64
      omega
    rw [eAB] at hQ
    have hQ : Q (some (.int (poV (lN B) (lN A)))) (HP (up2 hi 58 0 0) hl f dr t) := hQ
    rw [bel_eq hA15 hB] at hQ
    unfold rbV at hQ
    refine wq_lconst q273_15 ?_
    refine wq_lstore_n (ls' := [_, _, _, _, _, _, _, _, _, _]) q273_16 rfl ?_
    refine wq_lconst q273_17 ?_
    refine wq_lstore (ls' := [_, _, _, _, _, _, _, _, _, _]) q273_18 rfl ?_
    refine wq_iconst q273_20 ?_
    refine wq_istore (ls' := [_, _, _, _, _, _, _, _, _, _]) q273_21 rfl ?_
    refine c_rbel_loop (by omega) hs0 hF0 (fun x x6 x7 x8 x9 hx => ?_) (2 ^ ev) 0 (0, 0) _ (by omega) rfl
    rw [hlk, eAB] at hx
    subst hx
    have cmp : lg_cmp (lN A) 0 = 0 ↔ lN A = 0 := lg_cmp_eq _ _
    refine wq_lload_n q273_71 rfl ?_
    refine wq_lconst q273_72 ?_
    refine wq_lcmp q273_73 ?_
    refine wq_if_ne q273_74 (fun c74 => ?_) (fun c74 => ?_)
    · have hne : ¬ lN A = 0 := fun z => c74 (cmp.mpr z)
      rw [if_neg hne] at hQ
      refine wq_ldc2_w q273_79 ?_
      refine wq_lload q273_82 rfl ?_
      refine wq_lmul q273_84 ?_
      refine wq_lload_n q273_85 rfl ?_
      refine wq_ldiv q273_86 (hne) ?_
      refine wq_lstore (ls' := [_, _, _, _, _, _, _, _, _, _]) q273_87 rfl ?_
      refine wq_ldc2_w q273_89 ?_
      refine wq_lload q273_92 rfl ?_
      refine wq_lmul q273_94 ?_
      refine wq_lload_n q273_95 rfl ?_
      refine wq_lrem q273_96 (hne) ?_
      refine wq_lstore (ls' := [_, _, _, _, _, _, _, _, _, _]) q273_97 rfl ?_
      refine wq_ldc2_w q273_99 ?_
      refine wq_lload q273_102 rfl ?_
      refine wq_lmul q273_104 ?_
      refine wq_ldc2_w q273_105 ?_
      refine wq_lload q273_108 rfl ?_
      refine wq_lmul q273_110 ?_
      refine wq_lload_n q273_111 rfl ?_
      refine wq_ldiv q273_112 (hne) ?_
      refine wq_ladd q273_113 ?_
      refine wq_l2i q273_114 ?_
      refine rI q273_115 rfl ?_
      exact hQ
    · rw [if_pos (cmp.mp c74)] at hQ
      refine wq_iconst q273_77 ?_
      refine rI q273_78 rfl ?_
      exact hQ
  · have c := i01 c10
    rw [e27] at c
    rw [if_neg (show ¬ inB x (nI ev) = true by rw [c]; decide)] at hQ
    refine wq_iconst q273_13 ?_
    refine rI q273_14 rfl ?_
    exact hQ
end REFBELIEF
