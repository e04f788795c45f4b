/-! THE REFERENCE: what was said -/
/-- what was said, in the class (heap hc) and in the reference (heap hr) -/
def SaR (hc hr : Nat → Nat → Int32) (n ev sa : Nat) : Prop := hc 54 2 = nI sa ∧ hr 58 45 = nI sa ∧ sa ≤ 16 ∧ (∀ k, k < sa → ∃ p v, p < n ∧ v < ev ∧ hr 75 k = nI p ∧ hr 76 k = nI v ∧ (hr 77 k = 0 ∨ hr 77 k = 1)) ∧
  (∀ p v, p < 7 → v < 32 → (bt (hc 55 p) v = true ↔ ∃ k, k < sa ∧ hr 75 k = nI p ∧ hr 76 k = nI v ∧ hr 77 k = 1)) ∧ (∀ p v, p < 7 → v < 32 → (bt (hc 56 p) v = true ↔ ∃ k, k < sa ∧ hr 75 k = nI p ∧ hr 76 k = nI v ∧ hr 77 k = 0))
/-- the reference's liars -/
def rlR (by' evn was : Nat → Int32) (tr : Int32) : Nat → Nat → Int32 → Int32
  | 0, _, b => b
  | m + 1, k, b => rlR by' evn was tr m (k + 1) (if (if hsB tr (evn k) = true then (1 : Int32) else 0) = was k then b else b ||| (1 <<< (by' k &&& 31)))
theorem rlR_bit {by' evn was : Nat → Int32} {tr : Int32} {i : Nat} (hi : i < 32) : ∀ (m k : Nat) (b : Int32), (∀ j, k ≤ j → j < k + m → ∃ p, p < 7 ∧ by' j = nI p) → (bt (rlR by' evn was tr m k b) i = true ↔ (bt b i = true ∨ ∃ j, k ≤ j ∧ j < k + m ∧ by' j = nI i ∧ ¬ (if hsB tr (evn j) = true then (1 : Int32) else 0) = was j)) := by
  intro m
  induction m with
  | zero =>
    intro k b _
    rw [rlR]
    constructor
    · exact Or.inl
    · rintro (h | ⟨j, h1, h2, -⟩)
      · exact h
      · omega
  | succ m ih =>
    intro k b hb
    rw [rlR, ih (k + 1) _ (fun j h1 h2 => hb j (by omega) (by omega))]
    obtain ⟨p, hp, e⟩ := hb k (Nat.le_refl _) (by omega)
    by_cases hc : (if hsB tr (evn k) = true then (1 : Int32) else 0) = was k
    · rw [if_pos hc]
      constructor
      · rintro (h1 | ⟨j, h1, h2, h3⟩)
        · exact Or.inl h1
        · exact Or.inr ⟨j, by omega, by omega, h3⟩
      · rintro (h1 | ⟨j, h1, h2, h3⟩)
        · exact Or.inl h1
        · by_cases hj : j = k
          · subst hj
            exact absurd hc h3.2
          · exact Or.inr ⟨j, by omega, by omega, h3⟩
    · rw [if_neg hc, b_or, e, b_one (by omega) hi, Bool.or_eq_true, decide_eq_true_eq]
      constructor
      · rintro ((h1 | h1) | ⟨j, h1, h2, h3⟩)
        · exact Or.inl h1
        · exact Or.inr ⟨k, Nat.le_refl _, by omega, by rw [e, h1], hc⟩
        · exact Or.inr ⟨j, by omega, by omega, h3⟩
      · rintro (h1 | ⟨j, h1, h2, h3⟩)
        · exact Or.inl (Or.inl h1)
        · by_cases hj : j = k
          · subst hj
            refine Or.inl (Or.inr ?_)
            exact ((nI_eq (by omega) (by omega)).mp (h3.1.symm.trans e))
          · exact Or.inr ⟨j, by omega, by omega, h3⟩
theorem lbR_bit {w wn : Nat → Int32} {tr : Int32} {i : Nat} (hi : i < 32) : ∀ (m p : Nat) (b : Int32), p + m ≤ 7 → bt (lbR w wn tr m p b) i = (bt b i || (decide (p ≤ i ∧ i < p + m) && liB (w i) (wn i) tr)) := by
  intro m
  induction m with
  | zero =>
    intro p b _
    rw [lbR, decide_eq_false (by omega)]
    simp
  | succ m ih =>
    intro p b hp
    rw [lbR, ih (p + 1) _ (by omega), b_or]
    have e : ¬ i = p → decide (p + 1 ≤ i ∧ i < p + 1 + m) = decide (p ≤ i ∧ i < p + (m + 1)) := fun h => by
      congr 1
      apply propext
      omega
    by_cases hl : liB (w p) (wn p) tr = true
    · rw [if_pos hl, b_one (by omega) hi]
      by_cases h : i = p
      · subst h
        simp [hl]
      · rw [e h, decide_eq_false h]
        simp
    · rw [if_neg hl, b_0, Bool.or_false]
      by_cases h : i = p
      · subst h
        simp [hl]
      · rw [e h]
theorem liB_iff {w wn tr : Int32} : liB w wn tr = true ↔ ∃ i, i < 32 ∧ ((bt w i = true ∧ bt tr i = false) ∨ (bt wn i = true ∧ bt tr i = true)) := by
  unfold liB
  rw [decide_eq_true_eq]
  have hb : ∀ i, i < 32 → bt ((w &&& (tr ^^^ (-1))) ||| (wn &&& tr)) i = ((bt w i && !bt tr i) || (bt wn i && bt tr i)) := fun i hi => by
    rw [b_or, b_and, b_and, b_xor, b_m1 i hi, Bool.xor_true]
  constructor
  · intro h
    refine Decidable.byContradiction (fun hno => h (b_ext (fun i hi => ?_)))
    rw [hb i hi, b_0]
    cases h1 : bt w i <;> cases h2 : bt tr i <;> cases h3 : bt wn i <;> first | rfl | exact absurd ⟨i, hi, by simp [h1, h2, h3]⟩ hno
  · rintro ⟨i, hi, h⟩ hz
    have := hb i hi
    rw [hz, b_0] at this
    rcases h with ⟨h1, h2⟩ | ⟨h1, h2⟩
    · rw [h1, h2] at this; cases this
    · rw [h1, h2] at this; simp at this
section SAIDS
variable {hc hr : Nat → Nat → Int32} {n ev sa : Nat}
theorem SaR.rl (h : SaR hc hr n ev sa) (hn : n ≤ 7) (hev : ev ≤ 6) (tr : Int32) : rlR (hr 75) (hr 76) (hr 77) tr sa 0 0 = lbR (hc 55) (hc 56) tr 7 0 0 := by
  obtain ⟨h1, h2, h3, h4, h5, h6⟩ := h
  refine b_ext (fun i hi => ?_)
  rw [lbR_bit hi 7 0 0 (by omega), b_0, Bool.false_or, Bool.eq_iff_iff, rlR_bit hi sa 0 0 (fun j _ h => by obtain ⟨p, v, hp, -, e, -⟩ := h4 j (by omega); exact ⟨p, by omega, e⟩)]
  simp only [Bool.and_eq_true, decide_eq_true_eq]
  constructor
  · rintro (z | ⟨j, -, hj, e1, e2⟩)
    · rw [b_0] at z; cases z
    · obtain ⟨p, v, hp, hv, k1, k2, k3⟩ := h4 j (by omega)
      have hip : i = p := (nI_eq (by omega) (by omega)).mp (e1.symm.trans k1)
      subst hip
      refine ⟨by omega, liB_iff.mpr ⟨v, by omega, ?_⟩⟩
      rw [k2, hsB_bt (by omega)] at e2
      rcases k3 with k3 | k3
      · refine Or.inr ⟨(h6 i v (by omega) (by omega)).mpr ⟨j, by omega, k1, k2, k3⟩, ?_⟩
        rw [k3] at e2
        cases hb : bt tr v with
        | true => rfl
        | false => rw [hb] at e2; exact absurd rfl e2
      · refine Or.inl ⟨(h5 i v (by omega) (by omega)).mpr ⟨j, by omega, k1, k2, k3⟩, ?_⟩
        rw [k3] at e2
        cases hb : bt tr v with
        | true => rw [hb] at e2; exact absurd rfl e2
        | false => rfl
  · rintro ⟨hi7, hl⟩
    obtain ⟨v, hv, hh⟩ := liB_iff.mp hl
    rcases hh with ⟨w1, w2⟩ | ⟨w1, w2⟩
    · obtain ⟨k, k1, k2, k3, k4⟩ := (h5 i v (by omega) hv).mp w1
      obtain ⟨p', v', -, hv', -, q2, -⟩ := h4 k k1
      have hvv : v = v' := (nI_eq (by omega) (by omega)).mp (k3.symm.trans q2)
      refine Or.inr ⟨k, by omega, by omega, k2, ?_⟩
      rw [k3, hsB_bt (by omega), w2, k4]
      decide
    · obtain ⟨k, k1, k2, k3, k4⟩ := (h6 i v (by omega) hv).mp w1
      obtain ⟨p', v', -, hv', -, q2, -⟩ := h4 k k1
      have hvv : v = v' := (nI_eq (by omega) (by omega)).mp (k3.symm.trans q2)
      refine Or.inr ⟨k, by omega, by omega, k2, ?_⟩
      rw [k3, hsB_bt (by omega), w2, k4]
      decide
theorem SaR.mvr {hr' : Nat → Nat → Int32} (h : SaR hc hr n ev sa) (h45 : hr' 58 45 = hr 58 45) (h75 : hr' 75 = hr 75) (h76 : hr' 76 = hr 76) (h77 : hr' 77 = hr 77) : SaR hc hr' n ev sa := by
  unfold SaR
  rw [h45, h75, h76, h77]
  exact h
theorem SaR.mvc {hc' : Nat → Nat → Int32} (h : SaR hc hr n ev sa) (h54 : hc' 54 = hc 54) (h55 : hc' 55 = hc 55) (h56 : hc' 56 = hc 56) : SaR hc' hr n ev sa := by
  unfold SaR
  rw [h54, h55, h56]
  exact h
end SAIDS
section REFSAID
variable {G : ph_G} {d f dr t n r ev wi sz lg a sa : Nat} {hi hi' hc : Nat → Nat → Int32} {hl : Nat → Nat → Int64} {Q : Option Value → ph_H → Prop} {row : Nat → Int32} {lw : Option Nat}
theorem c_rliars_loop {tr : Int32} (hs : SaR hc hi n ev sa) (hn : n ≤ 7) (hev : ev ≤ 6) : ∀ (m k : Nat) (b : Int32), k + m = sa → Q (some (.int (rlR (hi 75) (hi 76) (hi 77) tr m k b))) (HP hi hl f dr t) →
    wq G (0, 0) (d + 1) 263 4 [some (.ref 58), some (.int tr), some (.int b), some (.int (nI k))] [] (0, 0) (HP hi hl f dr t) Q := by
  obtain ⟨h1, h2, h3, h4, h5, h6⟩ := hs
  have ec : hI (HP hi hl f dr t) 58 45 = nI sa := h2
  intro m
  induction m with
  | zero =>
    intro k b hm hQ
    obtain rfl : k = sa := by omega
    refine wq_iload_n q263_4 rfl ?_
    refine wq_aload_n q263_5 rfl ?_
    refine wq_getI q263_6 rfl rfl ?_
    refine wq_icmp_ge q263_9 (fun c9 => ?_) (fun c9 => ?_)
    · refine wq_iload_n q263_48 rfl ?_
      refine rI q263_49 rfl ?_
      exact hQ
    · rw [ec] at c9
      exact absurd (nI_le (Nat.le_refl _) (by omega)) c9
  | succ m ih =>
    intro k b hm hQ
    rw [rlR] at hQ
    refine wq_iload_n q263_4 rfl ?_
    refine wq_aload_n q263_5 rfl ?_
    refine wq_getI q263_6 rfl rfl ?_
    refine wq_icmp_ge q263_9 (fun c9 => ?_) (fun c9 => ?_)
    · rw [ec, nI_leI (by omega) (by omega)] at c9
      omega
    · refine wq_iload_n q263_12 rfl ?_
      refine wq_aload_n q263_13 rfl ?_
      refine wq_getR q263_14 rfl rfl rfl ?_
      refine wq_iload_n q263_17 rfl ?_
      refine aI q263_18 rfl (rfl) (by show k < 16; omega) (by first | decide | omega) ?_
      refine cS' (As := [_, _]) q263_19 m_171 rfl rfl rfl (c_rhas ?_)
      refine wq_aload_n q263_22 rfl ?_
      refine wq_getR q263_23 rfl rfl rfl ?_
      refine wq_iload_n q263_26 rfl ?_
      refine aZ q263_27 rfl (rfl) (by show k < 16; omega) (by first | decide | omega) ?_
      refine wq_icmp_eq q263_28 (fun c28 => ?_) (fun c28 => ?_)
      · rw [if_pos (show (if hsB tr (hi 76 k) = true then (1 : Int32) else 0) = hi 77 k from c28)] at hQ
        refine wq_iinc (ls' := [_, _, _, _]) q263_42 rfl rfl ?_
        refine wq_goto q263_45 ?_
        rw [nI_1]
        exact ih (k + 1) b (by omega) hQ
      · rw [if_neg (show ¬ (if hsB tr (hi 76 k) = true then (1 : Int32) else 0) = hi 77 k from c28)] at hQ
        refine wq_iload_n q263_31 rfl ?_
        refine wq_iconst q263_32 ?_
        refine wq_aload_n q263_33 rfl ?_
        refine wq_getR q263_34 rfl rfl rfl ?_
        refine wq_iload_n q263_37 rfl ?_
        refine aI q263_38 rfl (rfl) (by show k < 16; omega) (by first | decide | omega) ?_
        refine wq_ishl q263_39 ?_
        refine wq_ior q263_40 ?_
        refine wq_istore_n (ls' := [_, _, _, _]) q263_41 rfl ?_
        refine wq_iinc (ls' := [_, _, _, _]) q263_42 rfl rfl ?_
        refine wq_goto q263_45 ?_
        rw [nI_1]
        exact ih (k + 1) _ (by omega) hQ
/-- who lies by a truth -/
theorem c_rliarsBy {tr : Int32} (hs : SaR hc hi n ev sa) (hn : n ≤ 7) (hev : ev ≤ 6) (hQ : Q (some (.int (lbR (hc 55) (hc 56) tr 7 0 0))) (HP hi hl f dr t)) : Ct G (0, 0) (d + 1) 263 [.ref 58, .int tr] (HP hi hl f dr t) Q := by
  rw [← hs.rl hn hev] at hQ
  refine Ct_of (ls := [_, _, _, _]) m_263.1.2.2.1 (Nat.le_of_ble_eq_true rfl) rfl ?_
  refine wq_iconst q263_0 ?_
  refine wq_istore_n (ls' := [_, _, _, _]) q263_1 rfl ?_
  refine wq_iconst q263_2 ?_
  refine wq_istore_n (ls' := [_, _, _, _]) q263_3 rfl ?_
  exact c_rliars_loop hs hn hev sa 0 0 (by omega) hQ
theorem c_truthMany (hev : ev ≤ 6) (h27 : hi 58 27 = nI ev) (hQ : Q (some (.int (nI (2 ^ ev)))) (HP hi hl f dr t)) : Ct G (0, 0) d 264 [.ref 58] (HP hi hl f dr t) Q := by
  have ec : hI (HP hi hl f dr t) 58 27 = nI ev := h27
  refine Ct_of (ls := [_]) m_264.1.2.2.1 (Nat.le_of_ble_eq_true rfl) rfl ?_
  refine wq_iconst q264_0 ?_
  refine wq_aload_n q264_1 rfl ?_
  refine wq_getI q264_2 rfl rfl ?_
  rw [ec]
  refine wq_ishl q264_5 ?_
  rw [sh1 ev (by omega)]
  refine rI q264_6 rfl ?_
  exact hQ
theorem c_rleast_loop (hs : SaR hc hi n ev sa) (hn : n ≤ 7) (hev : ev ≤ 6) (h27 : hi 58 27 = nI ev) : ∀ (m T : Nat) (x : Int32), T + m = 2 ^ ev → Q (some (.int (fwR (lcV (hc 55) (hc 56)) m T x))) (HP hi hl f dr t) →
    wq G (0, 0) (d + 2) 265 5 [some (.ref 58), some (.int x), some (.int (nI T))] [] (0, 0) (HP hi hl f dr t) Q := by
  have h64 := pw6 hev
  intro m
  induction m with
  | zero =>
    intro T x hm hQ
    refine wq_iload_n q265_5 rfl ?_
    refine wq_aload_n q265_6 rfl ?_
    refine cV (As := []) q265_7 m_264 rfl rfl rfl ⟨by decide, rfl⟩ rfl (c_truthMany hev h27 ?_)
    refine wq_icmp_ge q265_10 (fun c10 => ?_) (fun c10 => ?_)
    · refine wq_iload_n q265_32 rfl ?_
      refine rI q265_33 rfl ?_
      exact hQ
    · rw [nI_leI (by omega) (by omega)] at c10
      omega
  | succ m ih =>
    intro T x hm hQ
    rw [fwR] at hQ
    refine wq_iload_n q265_5 rfl ?_
    refine wq_aload_n q265_6 rfl ?_
    refine cV (As := []) q265_7 m_264 rfl rfl rfl ⟨by decide, rfl⟩ rfl (c_truthMany hev h27 ?_)
    refine wq_icmp_ge q265_10 (fun c10 => ?_) (fun c10 => ?_)
    · rw [nI_leI (by omega) (by omega)] at c10
      omega
    · refine wq_iload_n q265_13 rfl ?_
      refine wq_aload_n q265_14 rfl ?_
      refine wq_iload_n q265_15 rfl ?_
      refine cV (As := [_]) q265_16 m_263 rfl rfl rfl ⟨by decide, rfl⟩ rfl (c_rliarsBy hs hn hev ?_)
      refine cS' (As := [_]) q265_19 m_295 rfl rfl rfl (c_bitCount ?_)
      refine wq_min q265_22 ⟨Nat.le.refl, Nat.le.refl, Nat.le_of_ble_eq_true rfl⟩ ?_
      refine wq_istore_n (ls' := [_, _, _]) q265_25 rfl ?_
      refine wq_iinc (ls' := [_, _, _]) q265_26 rfl rfl ?_
      refine wq_goto q265_29 ?_
      rw [nI_1]
      exact ih (T + 1) _ (by omega) hQ
theorem c_leastLiars (hs : SaR hc hi n ev sa) (hn : n ≤ 7) (hev : ev ≤ 6) (h27 : hi 58 27 = nI ev) (hQ : Q (some (.int (fwR (lcV (hc 55) (hc 56)) (2 ^ ev) 0 7))) (HP hi hl f dr t)) : Ct G (0, 0) (d + 2) 265 [.ref 58] (HP hi hl f dr t) Q := by
  refine Ct_of (ls := [_, _, _]) m_265.1.2.2.1 (Nat.le_of_ble_eq_true rfl) rfl ?_
  refine wq_bipush q265_0 ?_
  refine wq_istore_n (ls' := [_, _, _]) q265_2 rfl ?_
  refine wq_iconst q265_3 ?_
  refine wq_istore_n (ls' := [_, _, _]) q265_4 rfl ?_
  exact c_rleast_loop hs hn hev h27 _ 0 7 (by omega) hQ
theorem c_rleast (hs : SaR hc hi n ev sa) (hF : RF hi f lw sz n ev wi) (hQ : Q (some (.int (fwR (lcV (hc 55) (hc 56)) (2 ^ ev) 0 7))) (HP (up2 hi 58 0 0) hl f dr t)) : Ct G (0, 0) (d + 3) 266 [.ref 58] (HP hi hl f dr t) Q := by
  have hn := hF.2.1.1
  have hn1 := hF.2.1.2.1
  have hev := hF.2.1.2.2.1
  have e26 : hI (HP (up2 hi 58 0 0) hl f dr t) 58 26 = nI n := hF.2.2.1.1
  have hs0 : SaR hc (up2 hi 58 0 0) n ev sa := hs.mvr rfl rfl rfl rfl
  refine Ct_of (ls := [_]) m_266.1.2.2.1 (Nat.le_of_ble_eq_true rfl) rfl ?_
  refine wq_aload_n q266_0 rfl ?_
  refine wq_iconst q266_1 ?_
  refine wq_putI q266_2 rfl rfl rfl rfl ?_
  rw [hpS]
  refine wq_aload_n q266_5 rfl ?_
  refine wq_getI q266_6 rfl rfl ?_
  refine wq_if_ne q266_9 (fun c9 => ?_) (fun c9 => ?_)
  · refine wq_aload_n q266_16 rfl ?_
    refine cV (As := []) q266_17 m_265 rfl rfl rfl ⟨by decide, rfl⟩ rfl (c_leastLiars hs0 hn hev hF.2.2.1.2.1 ?_)
    refine rI q266_20 rfl ?_
    exact hQ
  · rw [e26] at c9
    exact absurd c9 (nI_ne0 (by omega) (by omega))
theorem iiB_07 {x : Int32} : iiB x.toInt64 0 7 = true ↔ 0 ≤ x ∧ x ≤ 7 := iiB_in 0 7 rfl rfl
theorem c_mayAsk {v : Int32} (hQ : Q (some (.int (if cdB (hi 58 26) v = true then 1 else 0))) (HP hi hl f dr t)) : Ct G (0, 0) (d + 1) 267 [.ref 58, .int v] (HP hi hl f dr t) Q := by
  unfold cdB at hQ
  refine Ct_of (ls := [_, _]) m_267.1.2.2.1 (Nat.le_of_ble_eq_true rfl) rfl ?_
  refine wq_aload_n q267_0 rfl ?_
  refine wq_getI q267_1 rfl rfl ?_
  refine wq_if_le q267_4 (fun c4 => ?_) (fun c4 => ?_)
  · rw [hIH] at c4
    rw [decide_eq_false (Int32.not_lt.mpr c4)] at hQ
    refine wq_iconst q267_23 ?_
    refine rI q267_24 rfl ?_
    exact hQ
  · rw [hIH] at c4
    rw [decide_eq_true (Int32.not_le.mp c4)] at hQ
    refine wq_iload_n q267_7 rfl ?_
    refine wq_i2l q267_8 ?_
    refine wq_lconst q267_9 ?_
    refine wq_ldc2_w q267_10 ?_
    refine cS' (As := [_, _, _]) q267_13 m_170 rfl rfl rfl (c_isIn ?_)
    refine wq_if_eq q267_16 (fun c16 => ?_) (fun c16 => ?_)
    · have c := i01 c16
      have hno : (true && decide (0 ≤ v) && decide (v ≤ 7)) = false := by
        by_cases h1 : 0 ≤ v
        · rw [decide_eq_true h1, decide_eq_false (fun z => by rw [iiB_07.mpr ⟨h1, z⟩] at c; cases c)]; rfl
        · rw [decide_eq_false h1]; rfl
      rw [hno] at hQ
      refine wq_iconst q267_23 ?_
      refine rI q267_24 rfl ?_
      exact hQ
    · have c := iiB_07.mp (i10 c16)
      rw [decide_eq_true c.1, decide_eq_true c.2] at hQ
      refine wq_iconst q267_19 ?_
      refine wq_goto q267_20 ?_
      refine rI q267_24 rfl ?_
      exact hQ
theorem c_rtruths_loop {v i : Int32} (hs : SaR hc hi n ev sa) (hn : n ≤ 7) (hev : ev ≤ 6) (h27 : hi 58 27 = nI ev) : ∀ (m T : Nat) (c : Int32), T + m = 2 ^ ev → Q (some (.int (trC (lcV (hc 55) (hc 56)) v i m T c))) (HP hi hl f dr t) →
    wq G (0, 0) (d + 2) 268 25 [some (.ref 58), some (.int v), some (.int i), some (.int c), some (.int (nI T))] [] (0, 0) (HP hi hl f dr t) Q := by
  have h64 := pw6 hev
  intro m
  induction m with
  | zero =>
    intro T c hm hQ
    rw [trC] at hQ
    refine wq_iload q268_25 rfl ?_
    refine wq_aload_n q268_27 rfl ?_
    refine cV (As := []) q268_28 m_264 rfl rfl rfl ⟨by decide, rfl⟩ rfl (c_truthMany hev h27 ?_)
    refine wq_icmp_ge q268_31 (fun c31 => ?_) (fun c31 => ?_)
    · refine wq_iload_n q268_67 rfl ?_
      refine wq_iconst q268_68 ?_
      refine wq_icmp_ne q268_69 (fun c69 => ?_) (fun c69 => ?_)
      · rw [if_neg c69] at hQ
        refine wq_iconst q268_76 ?_
        refine rI q268_77 rfl ?_
        exact hQ
      · rw [if_pos c69] at hQ
        refine wq_iload_n q268_72 rfl ?_
        refine wq_goto q268_73 ?_
        refine rI q268_77 rfl ?_
        exact hQ
    · rw [nI_leI (by omega) (by omega)] at c31
      omega
  | succ m ih =>
    intro T c hm hQ
    rw [trC] at hQ
    refine wq_iload q268_25 rfl ?_
    refine wq_aload_n q268_27 rfl ?_
    refine cV (As := []) q268_28 m_264 rfl rfl rfl ⟨by decide, rfl⟩ rfl (c_truthMany hev h27 ?_)
    refine wq_icmp_ge q268_31 (fun c31 => ?_) (fun c31 => ?_)
    · rw [nI_leI (by omega) (by omega)] at c31
      omega
    · refine wq_aload_n q268_34 rfl ?_
      refine wq_iload q268_35 rfl ?_
      refine cV (As := [_]) q268_37 m_263 rfl rfl rfl ⟨by decide, rfl⟩ rfl (c_rliarsBy hs hn hev ?_)
      refine cS' (As := [_]) q268_40 m_295 rfl rfl rfl (c_bitCount ?_)
      refine wq_iload_n q268_43 rfl ?_
      refine wq_icmp_le q268_44 (fun c44 => ?_) (fun c44 => ?_)
      · rw [if_pos (show lcV (hc 55) (hc 56) T ≤ v from c44)] at hQ
        refine wq_iload_n q268_50 rfl ?_
        refine wq_iload_n q268_51 rfl ?_
        refine wq_icmp_ne q268_52 (fun c52 => ?_) (fun c52 => ?_)
        · rw [if_neg c52] at hQ
          refine wq_iinc (ls' := [_, _, _, _, _]) q268_58 rfl rfl ?_
          refine wq_iinc (ls' := [_, _, _, _, _]) q268_61 rfl rfl ?_
          refine wq_goto q268_64 ?_
          rw [nI_1]
          exact ih (T + 1) _ (by omega) hQ
        · rw [if_pos c52] at hQ
          refine wq_iload q268_55 rfl ?_
          refine rI q268_57 rfl ?_
          exact hQ
      · rw [if_neg (show ¬ lcV (hc 55) (hc 56) T ≤ v from c44)] at hQ
        refine wq_goto q268_47 ?_
        refine wq_iinc (ls' := [_, _, _, _, _]) q268_61 rfl rfl ?_
        refine wq_goto q268_64 ?_
        rw [nI_1]
        exact ih (T + 1) _ (by omega) hQ
theorem c_rtruths {v i : Int32} (hs : SaR hc hi n ev sa) (hF : RF hi f lw sz n ev wi) (hQ : Q (some (.int (if cdB (nI n) v = true ∧ -1 ≤ i then trC (lcV (hc 55) (hc 56)) v i (2 ^ ev) 0 0 else -1))) (HP (up2 hi 58 0 0) hl f dr t)) : Ct G (0, 0) (d + 2) 268 [.ref 58, .int v, .int i] (HP hi hl f dr t) Q := by
  have hn := hF.2.1.1
  have hev := hF.2.1.2.2.1
  have e26 : up2 hi 58 0 0 58 26 = nI n := hF.2.2.1.1
  have hs0 : SaR hc (up2 hi 58 0 0) n ev sa := hs.mvr rfl rfl rfl rfl
  refine Ct_of (ls := [_, _, _, _, _]) m_268.1.2.2.1 (Nat.le_of_ble_eq_true rfl) rfl ?_
  refine wq_aload_n q268_0 rfl ?_
  refine wq_iconst q268_1 ?_
  refine wq_putI q268_2 rfl rfl rfl rfl ?_
  rw [hpS]
  refine wq_aload_n q268_5 rfl ?_
  refine wq_iload_n q268_6 rfl ?_
  refine cV (As := [_]) q268_7 m_267 rfl rfl rfl ⟨by decide, rfl⟩ rfl (c_mayAsk ?_)
  refine wq_if_eq q268_10 (fun c10 => ?_) (fun c10 => ?_)
  · have c := i01 c10
    rw [e26] at c
    rw [if_neg (fun z => by rw [z.1] at c; cases c)] at hQ
    refine wq_iconst q268_18 ?_
    refine rI q268_19 rfl ?_
    exact hQ
  · have c := i10 c10
    rw [e26] at c
    refine wq_iload_n q268_13 rfl ?_
    refine wq_iconst q268_14 ?_
    refine wq_icmp_ge q268_15 (fun c15 => ?_) (fun c15 => ?_)
    · rw [if_pos ⟨c, c15⟩] at hQ
      refine wq_iconst q268_20 ?_
      refine wq_istore_n (ls' := [_, _, _, _, _]) q268_21 rfl ?_
      refine wq_iconst q268_22 ?_
      refine wq_istore (ls' := [_, _, _, _, _]) q268_23 rfl ?_
      exact c_rtruths_loop hs0 hn hev hF.2.2.1.2.1 _ 0 0 (by omega) hQ
    · rw [if_neg (fun z => c15 z.2)] at hQ
      refine wq_iconst q268_18 ?_
      refine rI q268_19 rfl ?_
      exact hQ
theorem c_rliars_l2 {fw : Int32} (hs : SaR hc hi n ev sa) (hn : n ≤ 7) (hev : ev ≤ 6) (h27 : hi 58 27 = nI ev) : ∀ (m T : Nat) (x : Int32), T + m = 2 ^ ev → Q (some (.int (laR (fun T => lbR (hc 55) (hc 56) (nI T) 7 0 0) fw m T x))) (HP hi hl f dr t) →
    wq G (0, 0) (d + 3) 271 30 [some (.ref 58), some (.int fw), some (.int x), some (.int (nI T))] [] (0, 0) (HP hi hl f dr t) Q := by
  have h64 := pw6 hev
  intro m
  induction m with
  | zero =>
    intro T x hm hQ
    refine wq_iload_n q271_30 rfl ?_
    refine wq_aload_n q271_31 rfl ?_
    refine cV (As := []) q271_32 m_264 rfl rfl rfl ⟨by decide, rfl⟩ rfl (c_truthMany hev h27 ?_)
    refine wq_icmp_ge q271_35 (fun c35 => ?_) (fun c35 => ?_)
    · refine wq_iload_n q271_64 rfl ?_
      refine rI q271_65 rfl ?_
      exact hQ
    · rw [nI_leI (by omega) (by omega)] at c35
      omega
  | succ m ih =>
    intro T x hm hQ
    rw [laR] at hQ
    refine wq_iload_n q271_30 rfl ?_
    refine wq_aload_n q271_31 rfl ?_
    refine cV (As := []) q271_32 m_264 rfl rfl rfl ⟨by decide, rfl⟩ rfl (c_truthMany hev h27 ?_)
    refine wq_icmp_ge q271_35 (fun c35 => ?_) (fun c35 => ?_)
    · rw [nI_leI (by omega) (by omega)] at c35
      omega
    · refine wq_aload_n q271_38 rfl ?_
      refine wq_iload_n q271_39 rfl ?_
      refine cV (As := [_]) q271_40 m_263 rfl rfl rfl ⟨by decide, rfl⟩ rfl (c_rliarsBy hs hn hev ?_)
      refine cS' (As := [_]) q271_43 m_295 rfl rfl rfl (c_bitCount ?_)
      refine wq_iload_n q271_46 rfl ?_
      refine wq_icmp_ne q271_47 (fun c47 => ?_) (fun c47 => ?_)
      · rw [if_neg c47] at hQ
        refine wq_iinc (ls' := [_, _, _, _]) q271_58 rfl rfl ?_
        refine wq_goto q271_61 ?_
        rw [nI_1]
        exact ih (T + 1) x (by omega) hQ
      · rw [if_pos c47] at hQ
        refine wq_iload_n q271_50 rfl ?_
        refine wq_aload_n q271_51 rfl ?_
        refine wq_iload_n q271_52 rfl ?_
        refine cV (As := [_]) q271_53 m_263 rfl rfl rfl ⟨by decide, rfl⟩ rfl (c_rliarsBy hs hn hev ?_)
        refine wq_iand q271_56 ?_
        refine wq_istore_n (ls' := [_, _, _, _]) q271_57 rfl ?_
        refine wq_iinc (ls' := [_, _, _, _]) q271_58 rfl rfl ?_
        refine wq_goto q271_61 ?_
        rw [nI_1]
        exact ih (T + 1) _ (by omega) hQ
theorem c_rliars (hs : SaR hc hi n ev sa) (hF : RF hi f lw sz n ev wi) (hQ : Q (some (.int (laR (fun T => lbR (hc 55) (hc 56) (nI T) 7 0 0) (fwR (lcV (hc 55) (hc 56)) (2 ^ ev) 0 7) (2 ^ ev) 0 (1 <<< (nI n &&& 31) - 1)))) (HP (up2 hi 58 0 0) hl f dr t)) : Ct G (0, 0) (d + 3) 271 [.ref 58] (HP hi hl f dr t) Q := by
  have hn := hF.2.1.1
  have hn1 := hF.2.1.2.1
  have hev := hF.2.1.2.2.1
  have e26 : hI (HP (up2 hi 58 0 0) hl f dr t) 58 26 = nI n := hF.2.2.1.1
  have hs0 : SaR hc (up2 hi 58 0 0) n ev sa := hs.mvr rfl rfl rfl rfl
  refine Ct_of (ls := [_, _, _, _]) m_271.1.2.2.1 (Nat.le_of_ble_eq_true rfl) rfl ?_
  refine wq_aload_n q271_0 rfl ?_
  refine wq_iconst q271_1 ?_
  refine wq_putI q271_2 rfl rfl rfl rfl ?_
  rw [hpS]
  refine wq_aload_n q271_5 rfl ?_
  refine wq_getI q271_6 rfl rfl ?_
  refine wq_if_ne q271_9 (fun c9 => ?_) (fun c9 => ?_)
  · refine wq_aload_n q271_14 rfl ?_
    refine cV (As := []) q271_15 m_265 rfl rfl rfl ⟨by decide, rfl⟩ rfl (c_leastLiars hs0 hn hev hF.2.2.1.2.1 ?_)
    refine wq_istore_n (ls' := [_, _, _, _]) q271_18 rfl ?_
    refine wq_iconst q271_19 ?_
    refine wq_aload_n q271_20 rfl ?_
    refine wq_getI q271_21 rfl rfl ?_
    rw [e26]
    refine wq_ishl q271_24 ?_
    refine wq_iconst q271_25 ?_
    refine wq_isub q271_26 ?_
    refine wq_istore_n (ls' := [_, _, _, _]) q271_27 rfl ?_
    refine wq_iconst q271_28 ?_
    refine wq_istore_n (ls' := [_, _, _, _]) q271_29 rfl ?_
    exact c_rliars_l2 hs0 hn hev hF.2.2.1.2.1 _ 0 _ (by omega) hQ
  · rw [e26] at c9
    exact absurd c9 (nI_ne0 (by omega) (by omega))
/-- one says something -/
def SdP (sa p v : Nat) (w : Int32) (hi hi' : Nat → Nat → Int32) : Prop := hi' 58 45 = nI (sa + 1) ∧ hi' 75 = va_up (hi 75) sa (nI p) ∧ hi' 76 = va_up (hi 76) sa (nI v) ∧ hi' 77 = va_up (hi 77) sa w ∧ (∀ b, b ≠ 58 → b ≠ 75 → b ≠ 76 → b ≠ 77 → hi' b = hi b) ∧ ∀ k, k ≠ 0 → k ≠ 45 → hi' 58 k = hi 58 k
theorem c_rsaid {x y w : Int32} (hs : SaR hc hi n ev sa) (hn : n ≤ 7) (hev : ev ≤ 6) (h26 : hi 58 26 = nI n) (h27 : hi 58 27 = nI ev) (hw : w = 0 ∨ w = 1) (h0 : ¬ (inB x (nI n) = true ∧ inB y (nI ev) = true ∧ sa < 16) → Q (some (.int (-1))) (HP (up2 hi 58 0 0) hl f dr t))
    (h1 : ∀ p v hi', p < n → v < ev → x = nI p → y = nI v → sa < 16 → SdP sa p v w hi hi' → Q (some (.int (nI (sa + 1)))) (HP hi' hl f dr t)) : Ct G (0, 0) (d + 1) 262 [.ref 58, .int x, .int y, .int w] (HP hi hl f dr t) Q := by
  have e26 : up2 hi 58 0 0 58 26 = nI n := h26
  have e27 : up2 hi 58 0 0 58 27 = nI ev := h27
  have h16 := hs.2.2.1
  have e45 : ∀ A B C : Nat → Int32, hI (HP (upC (upC (upC (up2 hi 58 0 0) 75 A) 76 B) 77 C) hl f dr t) 58 45 = nI sa := fun _ _ _ => hs.2.1
  have e45a : hI (HP (up2 hi 58 0 0) hl f dr t) 58 45 = nI sa := hs.2.1
  have e45b : ∀ A, hI (HP (upC (up2 hi 58 0 0) 75 A) hl f dr t) 58 45 = nI sa := fun _ => hs.2.1
  have e45c : ∀ A B, hI (HP (upC (upC (up2 hi 58 0 0) 75 A) 76 B) hl f dr t) 58 45 = nI sa := fun _ _ => hs.2.1
  have enar : vp_nar .boolean w = w := by rcases hw with rfl | rfl <;> decide
  refine Ct_of (ls := [_, _, _, _]) m_262.1.2.2.1 (Nat.le_of_ble_eq_true rfl) rfl ?_
  refine wq_aload_n q262_0 rfl ?_
  refine wq_iconst q262_1 ?_
  refine wq_putI q262_2 rfl rfl rfl rfl ?_
  rw [hpS]
  refine wq_aload_n q262_5 rfl ?_
  refine wq_iload_n q262_6 rfl ?_
  refine cV (As := [_]) q262_7 m_209 rfl rfl rfl ⟨by decide, rfl⟩ rfl (c_risPrisoner ?_)
  refine wq_if_eq q262_10 (fun c10 => ?_) (fun c10 => ?_)
  · have c := i01 c10
    rw [e26] at c
    refine wq_iconst q262_30 ?_
    refine rI q262_31 rfl ?_
    exact h0 (fun z => by rw [z.1] at c; cases c)
  · have c := i10 c10
    rw [e26] at c
    obtain ⟨p, hp, rfl⟩ := inB_N (m := n) (by omega) c
    refine wq_aload_n q262_13 rfl ?_
    refine wq_iload_n q262_14 rfl ?_
    refine cV (As := [_]) q262_15 m_210 rfl rfl rfl ⟨by decide, rfl⟩ rfl (c_risEvent ?_)
    refine wq_if_eq q262_18 (fun c18 => ?_) (fun c18 => ?_)
    · have c := i01 c18
      rw [e27] at c
      refine wq_iconst q262_30 ?_
      refine rI q262_31 rfl ?_
      exact h0 (fun z => by rw [z.2.1] at c; cases c)
    · have c := i10 c18
      rw [e27] at c
      obtain ⟨v, hv, rfl⟩ := inB_N (m := ev) (by omega) c
      refine wq_aload_n q262_21 rfl ?_
      refine wq_getI q262_22 rfl rfl ?_
      refine wq_bipush q262_25 ?_
      refine wq_icmp_ne q262_27 (fun c27 => ?_) (fun c27 => ?_)
      · rw [e45a, show (16 : Int32) = nI 16 from rfl, nI_eq (by omega) (by omega)] at c27
        have hsa : sa < 16 := by omega
        refine wq_aload_n q262_32 rfl ?_
        refine wq_getR q262_33 rfl rfl rfl ?_
        refine wq_aload_n q262_36 rfl ?_
        refine wq_getI q262_37 rfl rfl ?_
        rw [e45a]
        refine wq_iload_n q262_40 rfl ?_
        refine sI q262_41 rfl (rfl) (by show sa < 16; omega) (by first | decide | omega) rfl ?_
        rw [hpS, up2_C]
        refine wq_aload_n q262_42 rfl ?_
        refine wq_getR q262_43 rfl rfl rfl ?_
        refine wq_aload_n q262_46 rfl ?_
        refine wq_getI q262_47 rfl rfl ?_
        rw [e45b]
        refine wq_iload_n q262_50 rfl ?_
        refine sI q262_51 rfl (rfl) (by show sa < 16; omega) (by first | decide | omega) rfl ?_
        rw [hpS, up2_C]
        refine wq_aload_n q262_52 rfl ?_
        refine wq_getR q262_53 rfl rfl rfl ?_
        refine wq_aload_n q262_56 rfl ?_
        refine wq_getI q262_57 rfl rfl ?_
        rw [e45c]
        refine wq_iload_n q262_60 rfl ?_
        refine sZ q262_61 rfl (rfl) (by show sa < 16; omega) (by first | decide | omega) rfl ?_
        rw [hpS, up2_C, enar]
        refine wq_aload_n q262_62 rfl ?_
        refine wq_dup q262_63 rfl ?_
        refine wq_getI q262_64 rfl rfl ?_
        refine wq_iconst q262_67 ?_
        refine wq_iadd q262_68 ?_
        refine wq_putI q262_69 rfl rfl rfl rfl ?_
        rw [e45, nI_1, hpS]
        refine wq_aload_n q262_72 rfl ?_
        refine wq_getI q262_73 rfl rfl ?_
        refine rI q262_76 rfl ?_
        refine h1 p v _ hp hv rfl rfl hsa ⟨rfl, rfl, rfl, rfl, fun b b1 b2 b3 b4 => ?_, fun k k1 k2 => ?_⟩
        · rw [up2_o _ _ _ b1, upC_o _ _ b4, upC_o _ _ b3, upC_o _ _ b2, up2_o _ _ _ b1]
        · rw [up2_s, vu_o _ _ k2]
          show up2 hi 58 0 0 58 k = _
          rw [up2_s, vu_o _ _ k1]
      · rw [e45a, show (16 : Int32) = nI 16 from rfl, nI_eq (by omega) (by omega)] at c27
        refine wq_iconst q262_30 ?_
        refine rI q262_31 rfl ?_
        exact h0 (fun z => by omega)
end REFSAID
