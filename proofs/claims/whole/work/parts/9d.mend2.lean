/-! DAYS AND YEARS ONCE MORE, with the day's number held -/
section MEND2
variable {G : ph_G} {d a r n f dr t sz : Nat} {hi : Nat → Nat → Int32} {hl : Nat → Nat → Int64} {Q : Option Value → ph_H → Prop} {lw : Option Nat}
/-- some days end, one after the other -/
def DaysB : Nat → (Nat → Nat → Int32) → (Nat → Nat → Int32) → Prop
  | 0, hi, hi' => hi' = hi
  | k + 1, hi, hi' => ∃ hi1 nx kp dy, AcK hi nx kp ∧ hi 39 32 = nI dy ∧ dy ≤ 9999 ∧ actP hi (edR (hi 39)) true nx kp dy hi1 ∧ DaysB k hi1 hi'
theorem c_daysB_loop {ev wi N : Nat} {s : Nat → Nat} (hN : N ≤ 60) : ∀ (m k : Nat) (hi : Nat → Nat → Int32) (nx kp dy : Nat), k + m = N → OwK hi f lw sz n ev wi nx kp dy s → dy + m ≤ 9999 → 0 < hi f 3 → (∀ hi', DaysB m hi hi' → Q (some (.int (hi' 39 32))) (HP hi' hl f dr t)) →
    wq G (0, 0) (d + 8) 114 12 [some (.ref 0), some (.int (nI N)), some (.int (nI k))] [] (0, 0) (HP hi hl f dr t) Q := by
  intro m
  induction m with
  | zero =>
    intro k hi nx kp dy hm hk hd hc hQ
    refine wq_iload_n q114_12 rfl ?_
    refine wq_iload_n q114_13 rfl ?_
    refine wq_icmp_ge q114_14 (fun c14 => ?_) (fun c14 => ?_)
    · refine wq_aload_n q114_31 rfl ?_
      refine wq_getR q114_32 rfl rfl rfl ?_
      refine wq_getR q114_35 rfl rfl rfl ?_
      refine wq_bipush q114_38 ?_
      refine aI q114_40 rfl (rfl) (by decide) (by first | decide | omega) ?_
      refine rI q114_41 rfl ?_
      exact hQ hi rfl
    · rw [nI_leI (by omega) (by omega)] at c14
      omega
  | succ m ih =>
    intro k hi nx kp dy hm hk hd hc hQ
    have h32 := hk.2.2.2.2.2.2.1
    have hcan : canB hi f (hi 39) n 4 (-1) (-1) = true := by
      have : hi 39 32 < 9999 := by rw [h32, show (9999 : Int32) = nI 9999 from rfl, nI_ltI (by omega) (by omega)]; omega
      unfold canB
      rw [if_neg (by decide), if_neg (by decide), if_neg (by decide), if_neg (by decide)]
      simp [hc, this]
    refine wq_iload_n q114_12 rfl ?_
    refine wq_iload_n q114_13 rfl ?_
    refine wq_icmp_ge q114_14 (fun c14 => ?_) (fun c14 => ?_)
    · rw [nI_leI (by omega) (by omega)] at c14
      omega
    · refine wq_aload_n q114_17 rfl ?_
      refine wq_iconst q114_18 ?_
      refine wq_iconst q114_19 ?_
      refine wq_iconst q114_20 ?_
      refine cV (As := [_, _, _]) q114_21 m_120 rfl rfl rfl ⟨by decide, rfl⟩ rfl (c_acted hk (fun hb => absurd (hcan.symm.trans hb) (by decide)) (fun _ hi' hp => ?_))
      have ech : chg hi f lw sz n ev s wi (hi 39) 4 (-1) (-1) = edR (hi 39) := by
        unfold chg
        rw [if_neg (by decide), if_neg (by decide), if_neg (by decide), if_neg (by decide)]
      rw [ech] at hp
      refine wq_pop q114_24 rfl ?_
      refine wq_iinc (ls' := [_, _, _]) q114_25 rfl rfl ?_
      refine wq_goto q114_28 ?_
      rw [nI_1]
      have hfl : FLs f lw hi hi' := FLs_of hk.1 hk.2.1 hp.2.2.2.2 (by decide)
      refine ih (k + 1) hi' _ _ (dy + 1) (by omega) (hk.act hp (hk.2.2.2.2.1.ed hk.2.2.2.1.1) (by rw [edR_32, h32]; exact nI_1 dy) (by omega)) (by omega) (by rw [hfl.1]; exact hc) (fun hi2 h2 => hQ hi2 ⟨hi', nx, kp, dy, hk.2.2.2.2.2.1, h32, by omega, hp, h2⟩)
theorem c_daysB {ev wi nx kp dy : Nat} {s : Nat → Nat} {x : Int32} (hk : OwK hi f lw sz n ev wi nx kp dy s) (h0 : spB hi f x = false → Q (some (.int (-1))) (HP hi hl f dr t)) (h1 : ∀ N, x = nI N → N ≤ 60 → dy + N ≤ 9999 → spB hi f x = true → ∀ hi', DaysB N hi hi' → Q (some (.int (hi' 39 32))) (HP hi' hl f dr t)) : Ct G (0, 0) (d + 8) 114 [.ref 0, .int x] (HP hi hl f dr t) Q := by
  refine Ct_of (ls := [_, _, _]) m_114.1.2.2.1 (Nat.le_of_ble_eq_true rfl) rfl ?_
  refine wq_aload_n q114_0 rfl ?_
  refine wq_iload_n q114_1 rfl ?_
  refine cV (As := [_]) q114_2 m_119 rfl rfl rfl ⟨by decide, rfl⟩ rfl (c_canSpend hk.1 ?_)
  refine wq_if_ne q114_5 (fun c5 => ?_) (fun c5 => ?_)
  · have c := i10 c5
    have c' := c
    simp [spB] at c'
    obtain ⟨⟨⟨g1, g2⟩, g3⟩, g4⟩ := c'
    obtain ⟨N, hN, rfl⟩ : ∃ N, N ≤ 60 ∧ x = nI N := by
      have hx0 : ¬ x < 0 := fun z => absurd (Int32.lt_of_le_of_lt g2 z) (by decide)
      exact nI_of2 (M := 60) (by decide) hx0 g3
    have h32 := hk.2.2.2.2.2.2.1
    have hdy := hk.2.2.2.2.2.2.2
    rw [h32, nI_add, show (9999 : Int32) = nI 9999 from rfl, nI_leI (by omega) (by omega)] at g4
    refine wq_iconst q114_10 ?_
    refine wq_istore_n (ls' := [_, _, _]) q114_11 rfl ?_
    exact c_daysB_loop hN N 0 hi nx kp dy (by omega) hk (by omega) g1 (fun hi' h => h1 N rfl hN g4 c hi' h)
  · have c := i01 c5
    refine wq_iconst q114_8 ?_
    refine rI q114_9 rfl ?_
    exact h0 c
/-- days of years, one after the other -/
def YrB (f : Nat) (lw : Option Nat) (sz n ev wi : Nat) : Nat → (Nat → Nat → Int32) → Int64 → (Nat → Nat → Int32) → Int64 → Prop
  | 0, hi, x, hi', x' => hi' = hi ∧ x' = x
  | k + 1, hi, x, hi', x' => ∃ hi1 nx kp dy, AcK hi nx kp ∧ hi 39 32 = nI dy ∧ dy ≤ 9999 ∧ yrP hi (ddR hi f lw sz n ev wi (hi 0 8) (hi 39, x)).1 nx kp dy hi1 ∧ YrB f lw sz n ev wi k hi1 (ddR hi f lw sz n ev wi (hi 0 8) (hi 39, x)).2 hi' x'
theorem c_yearsB_loop {ev wi N : Nat} {sd : Int64} (hN : N ≤ 60) : ∀ (m k : Nat) (hi : Nat → Nat → Int32) (x : Int64) (nx kp dy : Nat), k + m = N → OwK hi f lw sz n ev wi nx kp dy (sOf (hi 39)) → Sit (hi 39) n → dy + m ≤ 9999 → (∀ hi' x', YrB f lw sz n ev wi m hi x hi' x' → Q (some (.int (hi' 39 32))) (HP hi' (up2 hl 0 19 x') f dr t)) →
    wq G (0, 0) (d + 8) 115 18 [some (.ref 0), some (.int (nI N)), some (.long sd), none, some (.int (nI k))] [] (0, 0) (HP hi (up2 hl 0 19 x) f dr t) Q := by
  intro m
  induction m with
  | zero =>
    intro k hi x nx kp dy hm hk hsit hd hQ
    refine wq_iload q115_18 rfl ?_
    refine wq_iload_n q115_20 rfl ?_
    refine wq_icmp_ge q115_21 (fun c21 => ?_) (fun c21 => ?_)
    · refine wq_aload_n q115_34 rfl ?_
      refine wq_getR q115_35 rfl rfl rfl ?_
      refine wq_getR q115_38 rfl rfl rfl ?_
      refine wq_bipush q115_41 ?_
      refine aI q115_43 rfl (rfl) (by decide) (by first | decide | omega) ?_
      refine rI q115_44 rfl ?_
      exact hQ hi x ⟨rfl, rfl⟩
    · rw [nI_leI (by omega) (by omega)] at c21
      omega
  | succ m ih =>
    intro k hi x nx kp dy hm hk hsit hd hQ
    refine wq_iload q115_18 rfl ?_
    refine wq_iload_n q115_20 rfl ?_
    refine wq_icmp_ge q115_21 (fun c21 => ?_) (fun c21 => ?_)
    · rw [nI_leI (by omega) (by omega)] at c21
      omega
    · refine wq_aload_n q115_24 rfl ?_
      refine cV (As := []) q115_25 m_123 rfl rfl rfl ⟨by decide, rfl⟩ rfl (c_drawDay hk hsit (fun hi' h1 h2 h3 => ?_))
      have el : ∀ y, up2 (up2 hl 0 19 x) 0 19 y = up2 hl 0 19 y := fun y => up2_uu _ _ _ _ _
      have el2 : up2 hl 0 19 x 0 19 = x := rfl
      rw [el, el2]
      rw [el2] at h1
      refine wq_iinc (ls' := [_, _, _, _, _]) q115_28 rfl rfl ?_
      refine wq_goto q115_31 ?_
      rw [nI_1]
      obtain ⟨hf, hw, hlw, hfk, hsk, hac, hd1, hd2⟩ := hk
      have hfl : FLs f lw hi hi' := FLs_of hf hw h1.2.2.2.2 (by decide)
      refine ih (k + 1) hi' _ ((nx + 1) % 40) (min (kp + 1) 40) (dy + 1) (by omega) ⟨hf, hw.moved hfl, hlw.moved (h1.2.2.2.2 0 (by decide)), hfk.moved hfl, h2.si, ⟨?_, Nat.mod_lt _ (by decide), ?_, by omega⟩, h3, by omega⟩ h2 (by omega) (fun hi2 x2 h4 => hQ hi2 x2 ⟨hi', nx, kp, dy, hac, hd1, hd2, h1, h4⟩)
      · rw [h1.2.2.1]; rfl
      · rw [h1.2.2.1]; rfl
theorem c_yearsB {ev wi nx kp dy : Nat} {x : Int32} {sd : Int64} (hk : OwK hi f lw sz n ev wi nx kp dy (sOf (hi 39))) (hsit : Sit (hi 39) n) (h0 : spB hi f x = false → Q (some (.int (-1))) (HP hi hl f dr t))
    (h1 : ∀ N, x = nI N → N ≤ 60 → dy + N ≤ 9999 → spB hi f x = true → ∀ hi' x', YrB f lw sz n ev wi N hi sd hi' x' → Q (some (.int (hi' 39 32))) (HP hi' (up2 hl 0 19 x') f dr t)) : Ct G (0, 0) (d + 8) 115 [.ref 0, .int x, .long sd] (HP hi hl f dr t) Q := by
  refine Ct_of (ls := [_, _, _, _, _]) m_115.1.2.2.1 (Nat.le_of_ble_eq_true rfl) rfl ?_
  refine wq_aload_n q115_0 rfl ?_
  refine wq_iload_n q115_1 rfl ?_
  refine cV (As := [_]) q115_2 m_119 rfl rfl rfl ⟨by decide, rfl⟩ rfl (c_canSpend hk.1 ?_)
  refine wq_if_ne q115_5 (fun c5 => ?_) (fun c5 => ?_)
  · have c := i10 c5
    have c' := c
    simp [spB] at c'
    obtain ⟨⟨⟨g1, g2⟩, g3⟩, g4⟩ := c'
    obtain ⟨N, hN, rfl⟩ : ∃ N, N ≤ 60 ∧ x = nI N := by
      have hx0 : ¬ x < 0 := fun z => absurd (Int32.lt_of_le_of_lt g2 z) (by decide)
      exact nI_of2 (M := 60) (by decide) hx0 g3
    have h32 := hk.2.2.2.2.2.2.1
    have hdy := hk.2.2.2.2.2.2.2
    rw [h32, nI_add, show (9999 : Int32) = nI 9999 from rfl, nI_leI (by omega) (by omega)] at g4
    refine wq_aload_n q115_10 rfl ?_
    refine wq_lload_n q115_11 rfl ?_
    refine wq_putL q115_12 rfl rfl ?_
    refine wq_iconst q115_15 ?_
    refine wq_istore (ls' := [_, _, _, _, _]) q115_16 rfl ?_
    exact c_yearsB_loop hN N 0 hi sd nx kp dy (by omega) hk hsit (by omega) (fun hi' x' h => h1 N rfl hN g4 c hi' x' h)
  · have c := i01 c5
    refine wq_iconst q115_8 ?_
    refine rI q115_9 rfl ?_
    exact h0 c
end MEND2
