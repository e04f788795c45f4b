/-! THE CLASS: days, count, how far knocks go -/
section DAYS
variable {G : ph_G} {d a r n f dr t sz : Nat} {hi : Nat → Nat → Int32} {hl : Nat → Nat → Int64} {Q : Option Value → ph_H → Prop} {lw : Option Nat}
theorem OwK.act {ev wi nx kp dy dy' : Nat} {s s' : Nat → Nat} {row' : Nat → Int32} {log : Bool} {hi' : Nat → Nat → Int32} (hk : OwK hi f lw sz n ev wi nx kp dy s) (hp : actP hi row' log nx kp dy hi') (hs : SiK row' n s') (h32 : row' 32 = nI dy') (hdy : dy' ≤ 9999) : OwK hi' f lw sz n ev wi ((nx + 1) % 40) (min (kp + 1) 40) dy' s' := by
  obtain ⟨hf, hw, hlw, hfk, hsit, ⟨ha1, ha2, ha3, ha4⟩, hd1, hd2⟩ := hk
  have hfl : FLs f lw hi hi' := FLs_of hf hw hp.2.2.2.2 (by decide)
  refine ⟨hf, hw.moved hfl, hlw.moved (hp.2.2.2.2 0 (by decide)), hfk.moved hfl, by rw [hp.1]; exact hs, ⟨?_, Nat.mod_lt _ (by decide), ?_, by omega⟩, by rw [hp.1]; exact h32, hdy⟩
  · rw [hp.2.2.1]; rfl
  · rw [hp.2.2.1]; rfl
theorem edR_low {row : Nat → Int32} {j : Nat} (hj : j < 21) : edR row j = row j := by
  unfold edR
  simp only [va_up]
  rw [if_neg (by omega), if_neg (by omega), if_neg (by omega), if_neg (by omega)]
  unfold edA
  rw [if_neg (by omega)]
theorem edR_32 {row : Nat → Int32} : edR row 32 = row 32 + 1 := rfl
theorem SiK.ed {row : Nat → Int32} {s : Nat → Nat} (h : SiK row n s) (hn : n ≤ 7) : SiK (edR row) n s := fun c hc => by rw [edR_low (by omega)]; exact h c hc
/-- some days end, one after the other -/
def DaysR : Nat → (Nat → Nat → Int32) → (Nat → Nat → Int32) → Prop
  | 0, hi, hi' => hi' = hi
  | k + 1, hi, hi' => ∃ hi1 nx kp dy, AcK hi nx kp ∧ hi 39 32 = nI dy ∧ actP hi (edR (hi 39)) true nx kp dy hi1 ∧ DaysR k hi1 hi'
theorem c_days_loop {ev wi N : Nat} {s : Nat → Nat} (hN : N ≤ 60) : ∀ (m k : Nat) (hi : Nat → Nat → Int32) (nx kp dy : Nat), k + m = N → OwK hi f lw sz n ev wi nx kp dy s → dy + m ≤ 9999 → 0 < hi f 3 → (∀ hi', DaysR m hi hi' → Q (some (.int (hi' 39 32))) (HP hi' hl f dr t)) →
    wq G (0, 0) (d + 8) 114 12 [some (.ref 0), some (.int (nI N)), some (.int (nI k))] [] (0, 0) (HP hi hl f dr t) Q := by
  intro m
  induction m with
  | zero =>
    intro k hi nx kp dy hm hk hd hc hQ
    refine wq_iload_n q114_12 rfl ?_
    refine wq_iload_n q114_13 rfl ?_
    refine wq_icmp_ge q114_14 (fun c14 => ?_) (fun c14 => ?_)
    · refine wq_aload_n q114_31 rfl ?_
      refine wq_getR q114_32 rfl rfl rfl ?_
      refine wq_getR q114_35 rfl rfl rfl ?_
      refine wq_bipush q114_38 ?_
      refine aI q114_40 rfl (rfl) (by decide) (by first | decide | omega) ?_
      refine rI q114_41 rfl ?_
      exact hQ hi rfl
    · rw [nI_leI (by omega) (by omega)] at c14
      omega
  | succ m ih =>
    intro k hi nx kp dy hm hk hd hc hQ
    have h32 := hk.2.2.2.2.2.2.1
    have hcan : canB hi f (hi 39) n 4 (-1) (-1) = true := by
      have : hi 39 32 < 9999 := by rw [h32, show (9999 : Int32) = nI 9999 from rfl, nI_ltI (by omega) (by omega)]; omega
      unfold canB
      rw [if_neg (by decide), if_neg (by decide), if_neg (by decide), if_neg (by decide)]
      simp [hc, this]
    refine wq_iload_n q114_12 rfl ?_
    refine wq_iload_n q114_13 rfl ?_
    refine wq_icmp_ge q114_14 (fun c14 => ?_) (fun c14 => ?_)
    · rw [nI_leI (by omega) (by omega)] at c14
      omega
    · refine wq_aload_n q114_17 rfl ?_
      refine wq_iconst q114_18 ?_
      refine wq_iconst q114_19 ?_
      refine wq_iconst q114_20 ?_
      refine cV (As := [_, _, _]) q114_21 m_120 rfl rfl rfl ⟨by decide, rfl⟩ rfl (c_acted hk (fun hb => absurd (hcan.symm.trans hb) (by decide)) (fun _ hi' hp => ?_))
      have ech : chg hi f lw sz n ev s wi (hi 39) 4 (-1) (-1) = edR (hi 39) := by
        unfold chg
        rw [if_neg (by decide), if_neg (by decide), if_neg (by decide), if_neg (by decide)]
      rw [ech] at hp
      refine wq_pop q114_24 rfl ?_
      refine wq_iinc (ls' := [_, _, _]) q114_25 rfl rfl ?_
      refine wq_goto q114_28 ?_
      rw [nI_1]
      have hfl : FLs f lw hi hi' := FLs_of hk.1 hk.2.1 hp.2.2.2.2 (by decide)
      refine ih (k + 1) hi' _ _ (dy + 1) (by omega) (hk.act hp (hk.2.2.2.2.1.ed hk.2.2.2.1.1) (by rw [edR_32, h32]; exact nI_1 dy) (by omega)) (by omega) (by rw [hfl.1]; exact hc) (fun hi2 h2 => hQ hi2 ⟨hi', nx, kp, dy, hk.2.2.2.2.2.1, h32, hp, h2⟩)
theorem c_days {ev wi nx kp dy : Nat} {s : Nat → Nat} {x : Int32} (hk : OwK hi f lw sz n ev wi nx kp dy s) (h0 : spB hi f x = false → Q (some (.int (-1))) (HP hi hl f dr t)) (h1 : ∀ N, x = nI N → N ≤ 60 → spB hi f x = true → ∀ hi', DaysR N hi hi' → Q (some (.int (hi' 39 32))) (HP hi' hl f dr t)) : Ct G (0, 0) (d + 8) 114 [.ref 0, .int x] (HP hi hl f dr t) Q := by
  refine Ct_of (ls := [_, _, _]) m_114.1.2.2.1 (Nat.le_of_ble_eq_true rfl) rfl ?_
  refine wq_aload_n q114_0 rfl ?_
  refine wq_iload_n q114_1 rfl ?_
  refine cV (As := [_]) q114_2 m_119 rfl rfl rfl ⟨by decide, rfl⟩ rfl (c_canSpend hk.1 ?_)
  refine wq_if_ne q114_5 (fun c5 => ?_) (fun c5 => ?_)
  · have c := i10 c5
    have c' := c
    simp [spB] at c'
    obtain ⟨⟨⟨g1, g2⟩, g3⟩, g4⟩ := c'
    obtain ⟨N, hN, rfl⟩ : ∃ N, N ≤ 60 ∧ x = nI N := by
      have hx0 : ¬ x < 0 := fun z => absurd (Int32.lt_of_le_of_lt g2 z) (by decide)
      exact nI_of2 (M := 60) (by decide) hx0 g3
    have h32 := hk.2.2.2.2.2.2.1
    have hdy := hk.2.2.2.2.2.2.2
    rw [h32, nI_add, show (9999 : Int32) = nI 9999 from rfl, nI_leI (by omega) (by omega)] at g4
    refine wq_iconst q114_10 ?_
    refine wq_istore_n (ls' := [_, _, _]) q114_11 rfl ?_
    exact c_days_loop hN N 0 hi nx kp dy (by omega) hk (by omega) g1 (fun hi' h => h1 N rfl hN c hi' h)
  · have c := i01 c5
    refine wq_iconst q114_8 ?_
    refine rI q114_9 rfl ?_
    exact h0 c
/-- hearers of a knock from a cell -/
theorem c_hearersFrom {ev wi fr v : Nat} {s : Nat → Nat} (hf : Fok f) (hw : Lawk hi lw sz) (hlw : LwN hi lw) (hk : FoK hi f n ev wi) (hsit : SiK (hi 39) n s) (hfr : fr < n) (hv : v < 6)
    (hQ : ∀ hi', Same scr0 hi hi' → Q (some (.int (hrR (spV hi f lw sz v (hi 39) s fr) (hi 39) fr n 0 0))) (HP hi' hl f dr t)) : Ct G (0, 0) (d + 5) 137 [.ref 0, .int (nI fr), .int (nI v)] (HP hi hl f dr t) Q := by
  obtain ⟨hn, hn1, hev, hwi, hc, hc4, hc0⟩ := hk
  have hs : Sok 38 39 := Or.inl ⟨rfl, rfl⟩
  have after : ∀ hi2 : Nat → Nat → Int32, Same scr0 hi hi2 → (∀ c, c < n → hi2 51 c = spV hi f lw sz v (hi 39) s fr c) → wq G (0, 0) (d + 5) 137 21 [some (.ref 0), some (.int (nI fr)), some (.int (nI v))] [] (0, 0) (HP hi2 hl f dr t) Q := by
    intro hi2 h1 h2
    refine wq_aload_n q137_21 rfl ?_
    refine wq_getR q137_22 rfl rfl rfl ?_
    refine wq_aload_n q137_25 rfl ?_
    refine wq_getR q137_26 rfl rfl rfl ?_
    refine wq_aload_n q137_29 rfl ?_
    refine wq_getR q137_30 rfl rfl rfl ?_
    refine wq_iload_n q137_33 rfl ?_
    refine cV (As := [_, _, _]) q137_34 m_30 rfl rfl rfl ⟨by decide, rfl⟩ rfl (c_hearers hf hs hn (by omega) (by rw [h1 f (hf.scr (Or.inl rfl))]; exact hc) ?_)
    refine rI q137_37 rfl ?_
    rw [h1 39 (by decide), hrR_congr (st' := spV hi f lw sz v (hi 39) s fr) n 0 0 (fun j _ hj => h2 j (by omega))]
    exact hQ hi2 h1
  refine Ct_of (ls := [_, _, _]) m_137.1.2.2.1 (Nat.le_of_ble_eq_true rfl) rfl ?_
  cases hlw' : lw with
  | none =>
    subst hlw'
    refine wq_aload_n q137_0 rfl ?_
    refine wq_getR q137_1 rfl rfl rfl ?_
    refine wq_aload_n q137_4 rfl ?_
    refine wq_getR q137_5 rfl rfl rfl ?_
    refine wq_aload_n q137_8 rfl ?_
    refine wq_getR q137_9 rfl rfl rfl ?_
    refine wq_aload_n q137_12 rfl ?_
    refine cV (As := []) q137_13 m_108 rfl rfl rfl ⟨by decide, rfl⟩ rfl (c_lawNow hlw ?_)
    refine wq_iload_n q137_16 rfl ?_
    refine wq_iload_n q137_17 rfl ?_
    refine cV (As := [_, _, _, _, _]) q137_18 m_28 rfl rfl rfl ⟨by decide, rfl⟩ rfl (c_spread (lw := none) (s := s) hf hs hw hn hv hfr hc hsit (fun hi2 h1 h2 => ?_))
    exact after hi2 h1 h2
  | some la =>
    subst hlw'
    refine wq_aload_n q137_0 rfl ?_
    refine wq_getR q137_1 rfl rfl rfl ?_
    refine wq_aload_n q137_4 rfl ?_
    refine wq_getR q137_5 rfl rfl rfl ?_
    refine wq_aload_n q137_8 rfl ?_
    refine wq_getR q137_9 rfl rfl rfl ?_
    refine wq_aload_n q137_12 rfl ?_
    refine cV (As := []) q137_13 m_108 rfl rfl rfl ⟨by decide, rfl⟩ rfl (c_lawNow hlw ?_)
    refine wq_iload_n q137_16 rfl ?_
    refine wq_iload_n q137_17 rfl ?_
    refine cV (As := [_, _, _, _, _]) q137_18 m_28 rfl rfl rfl ⟨by decide, rfl⟩ rfl (c_spread (lw := some la) (s := s) hf hs hw hn hv hfr hc hsit (fun hi2 h1 h2 => ?_))
    exact after hi2 h1 h2
theorem c_far {ev wi : Nat} {s : Nat → Nat} {x y : Int32} (hf : Fok f) (hw : Lawk hi lw sz) (hlw : LwN hi lw) (hk : FoK hi f n ev wi) (hsit : SiK (hi 39) n s)
    (h0 : ¬ (inB x (hi f 4) = true ∧ inB y (hi f 3) = true) → Q (some (.int (-1))) (HP hi hl f dr t)) (h1 : ∀ v c hi', v < ev → x = nI v → c < n → y = nI c → Same scr0 hi hi' → Q (some (.int (spV hi f lw sz v (hi 39) s wi c))) (HP hi' hl f dr t)) : Ct G (0, 0) (d + 5) 131 [.ref 0, .int x, .int y] (HP hi hl f dr t) Q := by
  obtain ⟨hn, hn1, hev, hwi, hc, hc4, hc0⟩ := hk
  have hs : Sok 38 39 := Or.inl ⟨rfl, rfl⟩
  obtain ⟨f1, -⟩ := hf.frt hi hl f dr t
  have ew : hI (HP hi hl f dr t) (f + 1) 0 = nI wi := hc0
  refine Ct_of (ls := [_, _, _]) m_131.1.2.2.1 (Nat.le_of_ble_eq_true rfl) rfl ?_
  refine wq_aload_n q131_0 rfl ?_
  refine wq_iload_n q131_1 rfl ?_
  refine cV (As := [_]) q131_2 m_105 rfl rfl rfl ⟨by decide, rfl⟩ rfl (c_isEvent hf ?_)
  refine wq_if_eq q131_5 (fun c5 => ?_) (fun c5 => ?_)
  · have c := i01 c5
    refine wq_iconst q131_16 ?_
    refine rI q131_17 rfl ?_
    exact h0 (fun z => by rw [z.1] at c; cases c)
  · have c := i10 c5
    refine wq_aload_n q131_8 rfl ?_
    refine wq_iload_n q131_9 rfl ?_
    refine cV (As := [_]) q131_10 m_104 rfl rfl rfl ⟨by decide, rfl⟩ rfl (c_isCell hf ?_)
    refine wq_if_ne q131_13 (fun c13 => ?_) (fun c13 => ?_)
    · have c2 := i10 c13
      rw [hc4] at c
      rw [hc] at c2
      obtain ⟨v, hv, rfl⟩ := inB_N (m := ev) (by omega) c
      obtain ⟨c', hc', rfl⟩ := inB_N (m := n) (by omega) c2
      have after : ∀ hi2 : Nat → Nat → Int32, Same scr0 hi hi2 → (∀ c, c < n → hi2 51 c = spV hi f lw sz v (hi 39) s wi c) → wq G (0, 0) (d + 5) 131 45 [some (.ref 0), some (.int (nI v)), some (.int (nI c'))] [] (0, 0) (HP hi2 hl f dr t) Q := by
        intro hi2 g1 g2
        have e : hI (HP hi2 hl f dr t) 51 c' = spV hi f lw sz v (hi 39) s wi c' := g2 c' hc'
        refine wq_aload_n q131_45 rfl ?_
        refine wq_getR q131_46 rfl rfl rfl ?_
        refine wq_getR q131_49 rfl rfl rfl ?_
        refine wq_iload_n q131_52 rfl ?_
        refine aI q131_53 rfl (rfl) (by show c' < 7; omega) (by first | decide | omega) ?_
        refine rI q131_54 rfl ?_
        rw [e]
        exact h1 v c' hi2 hv rfl hc' rfl g1
      cases hlw' : lw with
      | none =>
        subst hlw'
        refine wq_aload_n q131_18 rfl ?_
        refine wq_getR q131_19 (by first | exact f1 | rfl) rfl (by first | exact f1 | rfl) ?_
        refine wq_aload_n q131_22 rfl ?_
        refine wq_getR q131_23 (by first | exact f1 | rfl) rfl (by first | exact f1 | rfl) ?_
        refine wq_aload_n q131_26 rfl ?_
        refine wq_getR q131_27 (by first | exact f1 | rfl) rfl (by first | exact f1 | rfl) ?_
        refine wq_aload_n q131_30 rfl ?_
        refine cV (As := []) q131_31 m_108 rfl rfl (by first | exact f1 | rfl) ⟨by decide, rfl⟩ rfl (c_lawNow hlw ?_)
        refine wq_iload_n q131_34 rfl ?_
        refine wq_aload_n q131_35 rfl ?_
        refine wq_getR q131_36 (by first | exact f1 | rfl) rfl (by first | exact f1 | rfl) ?_
        refine cV (As := []) q131_39 m_16 rfl rfl (by first | exact f1 | rfl) ⟨by decide, rfl⟩ rfl (c_window (by exact hf.frt hi hl f dr t) ?_)
        rw [ew]
        refine cV (As := [_, _, _, _, _]) q131_42 m_28 rfl rfl rfl ⟨by decide, rfl⟩ rfl (c_spread (lw := none) (s := s) hf hs hw hn (by omega) hwi hc hsit (fun hi2 h1 h2 => ?_))
        exact after hi2 h1 h2
      | some la =>
        subst hlw'
        refine wq_aload_n q131_18 rfl ?_
        refine wq_getR q131_19 (by first | exact f1 | rfl) rfl (by first | exact f1 | rfl) ?_
        refine wq_aload_n q131_22 rfl ?_
        refine wq_getR q131_23 (by first | exact f1 | rfl) rfl (by first | exact f1 | rfl) ?_
        refine wq_aload_n q131_26 rfl ?_
        refine wq_getR q131_27 (by first | exact f1 | rfl) rfl (by first | exact f1 | rfl) ?_
        refine wq_aload_n q131_30 rfl ?_
        refine cV (As := []) q131_31 m_108 rfl rfl (by first | exact f1 | rfl) ⟨by decide, rfl⟩ rfl (c_lawNow hlw ?_)
        refine wq_iload_n q131_34 rfl ?_
        refine wq_aload_n q131_35 rfl ?_
        refine wq_getR q131_36 (by first | exact f1 | rfl) rfl (by first | exact f1 | rfl) ?_
        refine cV (As := []) q131_39 m_16 rfl rfl (by first | exact f1 | rfl) ⟨by decide, rfl⟩ rfl (c_window (by exact hf.frt hi hl f dr t) ?_)
        rw [ew]
        refine cV (As := [_, _, _, _, _]) q131_42 m_28 rfl rfl rfl ⟨by decide, rfl⟩ rfl (c_spread (lw := some la) (s := s) hf hs hw hn (by omega) hwi hc hsit (fun hi2 h1 h2 => ?_))
        exact after hi2 h1 h2
    · have c2 := i01 c13
      refine wq_iconst q131_16 ?_
      refine rI q131_17 rfl ?_
      exact h0 (fun z => by rw [z.2] at c2; cases c2)
theorem c_listen {ev wi : Nat} {s : Nat → Nat} {x : Int32} (hf : Fok f) (hw : Lawk hi lw sz) (hlw : LwN hi lw) (hk : FoK hi f n ev wi) (hsit : SiK (hi 39) n s)
    (h0 : inB x (hi f 4) = false → Q (some (.int (-1))) (HP hi hl f dr t)) (h1 : ∀ v hi', v < ev → x = nI v → Same scr0 hi hi' → Q (some (.int (hrR (spV hi f lw sz v (hi 39) s wi) (hi 39) wi n 0 0))) (HP hi' hl f dr t)) : Ct G (0, 0) (d + 6) 133 [.ref 0, .int x] (HP hi hl f dr t) Q := by
  have hk' := hk
  obtain ⟨hn, hn1, hev, hwi, hc, hc4, hc0⟩ := hk
  obtain ⟨f1, -⟩ := hf.frt hi hl f dr t
  have ew : hI (HP hi hl f dr t) (f + 1) 0 = nI wi := hc0
  refine Ct_of (ls := [_, _]) m_133.1.2.2.1 (Nat.le_of_ble_eq_true rfl) rfl ?_
  refine wq_aload_n q133_0 rfl ?_
  refine wq_iload_n q133_1 rfl ?_
  refine cV (As := [_]) q133_2 m_105 rfl rfl rfl ⟨by decide, rfl⟩ rfl (c_isEvent hf ?_)
  refine wq_if_eq q133_5 (fun c5 => ?_) (fun c5 => ?_)
  · have c := i01 c5
    refine wq_iconst q133_23 ?_
    refine rI q133_24 rfl ?_
    exact h0 c
  · have c := i10 c5
    rw [hc4] at c
    obtain ⟨v, hv, rfl⟩ := inB_N (m := ev) (by omega) c
    refine wq_aload_n q133_8 rfl ?_
    refine wq_aload_n q133_9 rfl ?_
    refine wq_getR q133_10 (by first | exact f1 | rfl) rfl (by first | exact f1 | rfl) ?_
    refine cV (As := []) q133_13 m_16 rfl rfl (by first | exact f1 | rfl) ⟨by decide, rfl⟩ rfl (c_window (by exact hf.frt hi hl f dr t) ?_)
    rw [ew]
    refine wq_iload_n q133_16 rfl ?_
    refine cV (As := [_, _]) q133_17 m_137 rfl rfl rfl ⟨by decide, rfl⟩ rfl (c_hearersFrom hf hw hlw hk' hsit hwi (by omega) (fun hi' h => ?_))
    refine wq_goto q133_20 ?_
    refine rI q133_24 rfl ?_
    exact h1 v hi' hv rfl h
end DAYS
