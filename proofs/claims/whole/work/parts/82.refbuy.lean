/-! THE REFERENCE: what is bought -/
theorem hrR_row {st row row' : Nat → Int32} {fr : Nat} : ∀ (m c : Nat) (b : Int32), (∀ j, c ≤ j → j < c + m → row j = row' j) → hrR st row fr m c b = hrR st row' fr m c b := by
  intro m
  induction m with
  | zero => intro c b _; rfl
  | succ m ih =>
    intro c b h
    rw [hrR, hrR, h c (Nat.le_refl _) (by omega)]
    exact ih (c + 1) _ (fun j h1 h2 => h j (by omega) (by omega))
theorem spV_row {hi : Nat → Nat → Int32} {f : Nat} {lw : Option Nat} {sz v : Nat} {row row' : Nat → Int32} {s : Nat → Nat} {fr : Nat} (h1 : row 31 = row' 31) (h2 : row 32 = row' 32) : spV hi f lw sz v row s fr = spV hi f lw sz v row' s fr := by
  have e : bwC hi f lw sz v row s = bwC hi f lw sz v row' s := by
    funext w c x
    unfold bwC
    rw [h1, h2]
  unfold spV
  rw [e]
theorem heR_cost {bits : Int32} {v te : Nat} {c c' : Int32} (hte : te < 7) : ∀ (m p : Nat) (x y : (Nat → Int32) × (Nat → Int32)), p + m ≤ 7 → x.1 = y.1 → (∀ j, (j < 7 ∨ 14 ≤ j) → x.2 j = y.2 j) → (heR bits v te c m p x).1 = (heR bits v te c' m p y).1 ∧ ∀ j, (j < 7 ∨ 14 ≤ j) → (heR bits v te c m p x).2 j = (heR bits v te c' m p y).2 j := by
  intro m
  induction m with
  | zero => intro p x y _ h1 h2; exact ⟨h1, h2⟩
  | succ m ih =>
    intro p x y hp h1 h2
    rw [heR, heR]
    refine ih (p + 1) _ _ (by omega) ?_ ?_
    · unfold heS
      by_cases hb : bits >>> (nI p &&& 31) &&& 1 = 1
      · rw [if_pos hb, if_pos hb, h1]
      · rw [if_neg hb, if_neg hb, h1]
    · intro j hj
      unfold heS
      by_cases hb : bits >>> (nI p &&& 31) &&& 1 = 1
      · rw [if_pos hb, if_pos hb]
        show payR _ p te c j = payR _ p te c' j
        rw [payR_o (by omega) (by omega), payR_o (by omega) (by omega)]
        by_cases hj2 : j = 21 + p
        · rw [hj2, vu_s, vu_s, h2 (21 + p) (by omega)]
        · rw [vu_o _ _ hj2, vu_o _ _ hj2]
          exact h2 j hj
      · rw [if_neg hb, if_neg hb]
        exact h2 j hj
theorem taR_cost {hi : Nat → Nat → Int32} {f : Nat} {lw : Option Nat} {sz n : Nat} {s : Nat → Nat} {wi te : Nat} {c c' : Int32} {hold : Bool} (hte : te < 7) (hn : n ≤ 7) : ∀ (m v : Nat) (x y : taX), x.1 = y.1 → (∀ j, (j < 7 ∨ 14 ≤ j) → x.2.1 j = y.2.1 j) → (taR hi f lw sz n s wi te c hold m v x).1 = (taR hi f lw sz n s wi te c' hold m v y).1 := by
  intro m
  induction m with
  | zero => intro v x y h1 _; exact h1
  | succ m ih =>
    intro v x y h1 h2
    rw [taR, taR]
    have et : toB hi f te hold v x.2.1 = toB hi f te hold v y.2.1 := by
      unfold toB seB
      rw [h2 28 (by omega), h2 31 (by omega)]
    have eB : hrR (spV hi f lw sz v x.2.1 s wi) x.2.1 wi n 0 0 = hrR (spV hi f lw sz v y.2.1 s wi) y.2.1 wi n 0 0 := by
      rw [spV_row (h2 31 (by omega)) (h2 32 (by omega))]
      exact hrR_row n 0 0 (fun j _ hj => h2 j (by omega))
    refine ih (v + 1) _ _ ?_ ?_
    · by_cases ht : toB hi f te hold v y.2.1 = true
      · rw [taS_eq (et.trans ht) eB.symm, taS_eq ht rfl]
        exact (heR_cost hte 7 0 (x.1, x.2.1) (y.1, y.2.1) (by omega) h1 h2).1
      · unfold taS
        rw [if_neg (by rw [et]; exact ht), if_neg ht]
        exact h1
    · intro j hj
      by_cases ht : toB hi f te hold v y.2.1 = true
      · rw [taS_eq (et.trans ht) eB.symm, taS_eq ht rfl]
        have hh := (heR_cost (bits := hrR (spV hi f lw sz v y.2.1 s wi) y.2.1 wi n 0 0) (v := v) (c := c) (c' := c') hte 7 0 (x.1, x.2.1) (y.1, y.2.1) (by omega) h1 h2).2
        show va_up _ 31 _ j = va_up _ 31 _ j
        by_cases hj2 : j = 31
        · rw [hj2, vu_s, vu_s, hh 31 (by omega)]
        · rw [vu_o _ _ hj2, vu_o _ _ hj2]
          exact hh j hj
      · unfold taS
        rw [if_neg (by rw [et]; exact ht), if_neg ht]
        exact h2 j hj
theorem set_or : ∀ v, v < 6 → ∀ k, k < 2 ^ v → nI k ||| (1 <<< (nI v &&& 31)) = nI (k + 2 ^ v) ∧ bc (nI (k + 2 ^ v)) = bc (nI k) + 1 := by decide +kernel
theorem set_and : ∀ v, v < 6 → ∀ k, k < 2 ^ v → ∀ o, o < 2 ^ v → (k + 2 ^ v) &&& (o + 2 ^ v) = (k &&& o) + 2 ^ v ∧ (k + 2 ^ v) &&& o = (k &&& o) ∧ k &&& (o + 2 ^ v) = (k &&& o) ∧ k &&& o < 2 ^ v := by decide +kernel
theorem pw_mono : ∀ v, v < 6 → ∀ k, k < 2 ^ v → k < 2 ^ (v + 1) ∧ k + 2 ^ v < 2 ^ (v + 1) := by decide +kernel
theorem q_div : ∀ k, k < 4 → nI k / 2 = xk k ∧ nI k - nI k / 2 * 2 = nI k &&& 1 := by decide
/-- what one has so far -/
def hsA (hb : Nat → Int32) (cost : Int32) (a b : Nat) (y : Int32) : Int32 := bc (hb a) * (3 - cost) - (if y = 1 then bc (hb a &&& hb b) else 0)
theorem ring1 (k c e : Int32) : (k + 1) * c - (e + 1) = k * c - e + c - 1 := by grind
theorem ring2 (k c e : Int32) : (k + 1) * c - e = k * c - e + c - 0 := by grind
theorem hsA_step {hb hb' : Nat → Int32} {cost y : Int32} {a b v : Nat} {B : Int32} (hv : v < 6) (ha : ∃ k, k < 2 ^ v ∧ hb a = nI k) (hb0 : ∃ k, k < 2 ^ v ∧ hb b = nI k) (ea : hb' a = (if bt B a = true then hb a ||| (1 <<< (nI v &&& 31)) else hb a)) (eb : hb' b = (if bt B b = true then hb b ||| (1 <<< (nI v &&& 31)) else hb b)) :
    hsA hb' cost a b y = (if bt B a = true then hsA hb cost a b y + (3 - cost) - (if y = 1 ∧ bt B b = true then 1 else 0) else hsA hb cost a b y) := by
  obtain ⟨k, hk, e1⟩ := ha
  obtain ⟨o, ho, e2⟩ := hb0
  obtain ⟨k1, k2⟩ := set_or v hv k hk
  obtain ⟨o1, o2⟩ := set_or v hv o ho
  obtain ⟨s1, s2, s3, s4⟩ := set_and v hv k hk o ho
  obtain ⟨t1, t2⟩ := set_or v hv (k &&& o) s4
  unfold hsA
  rw [ea, eb, e1, e2]
  by_cases h1 : bt B a = true
  · rw [if_pos h1, if_pos h1, k1, k2]
    by_cases hy : y = 1
    · rw [if_pos hy, if_pos hy]
      by_cases h2 : bt B b = true
      · rw [if_pos h2, if_pos ⟨hy, h2⟩, o1, nx_and, s1, t2, nx_and]
        exact ring1 _ _ _
      · rw [if_neg h2, if_neg (fun z => h2 z.2), nx_and, s2, nx_and]
        exact ring2 _ _ _
    · rw [if_neg hy, if_neg hy, if_neg (fun z => hy z.1)]
      exact ring2 _ _ _
  · rw [if_neg h1, if_neg h1]
    by_cases hy : y = 1
    · rw [if_pos hy, if_pos hy]
      by_cases h2 : bt B b = true
      · rw [if_pos h2, o1, nx_and, s3, nx_and]
      · rw [if_neg h2]
    · rw [if_neg hy, if_neg hy]
section REFBUY
variable {G : ph_G} {d f dr t n r ev wi sz lg : Nat} {hi hi' : Nat → Nat → Int32} {hl : Nat → Nat → Int64} {Q : Option Value → ph_H → Prop} {row : Nat → Int32} {lw : Option Nat}
theorem c_rcanMove {a b : Int32} (hQ : Q (some (.int (if (inB a (hi 58 26) && inB b (hi 58 26) && !decide (a = b)) = true then 1 else 0))) (HP hi hl f dr t)) : Ct G (0, 0) (d + 1) 233 [.ref 58, .int a, .int b] (HP hi hl f dr t) Q := by
  refine Ct_of (ls := [_, _, _]) m_233.1.2.2.1 (Nat.le_of_ble_eq_true rfl) rfl ?_
  refine wq_aload_n q233_0 rfl ?_
  refine wq_iload_n q233_1 rfl ?_
  refine cV (As := [_]) q233_2 m_209 rfl rfl rfl ⟨by decide, rfl⟩ rfl (c_risPrisoner ?_)
  refine wq_if_eq q233_5 (fun c5 => ?_) (fun c5 => ?_)
  · have c := i01 c5
    rw [c] at hQ
    refine wq_iconst q233_25 ?_
    refine rI q233_26 rfl ?_
    exact hQ
  · have c := i10 c5
    rw [c] at hQ
    refine wq_aload_n q233_8 rfl ?_
    refine wq_iload_n q233_9 rfl ?_
    refine cV (As := [_]) q233_10 m_209 rfl rfl rfl ⟨by decide, rfl⟩ rfl (c_risPrisoner ?_)
    refine wq_if_eq q233_13 (fun c13 => ?_) (fun c13 => ?_)
    · have c' := i01 c13
      rw [c'] at hQ
      refine wq_iconst q233_25 ?_
      refine rI q233_26 rfl ?_
      exact hQ
    · have c' := i10 c13
      rw [c'] at hQ
      refine wq_iload_n q233_16 rfl ?_
      refine wq_iload_n q233_17 rfl ?_
      refine wq_icmp_eq q233_18 (fun c18 => ?_) (fun c18 => ?_)
      · rw [decide_eq_true c18] at hQ
        refine wq_iconst q233_25 ?_
        refine rI q233_26 rfl ?_
        exact hQ
      · rw [decide_eq_false c18] at hQ
        refine wq_iconst q233_21 ?_
        refine wq_goto q233_22 ?_
        refine rI q233_26 rfl ?_
        exact hQ
theorem c_rcanBuy {x y : Int32} (hn : n ≤ 7) (h26 : hi 58 26 = nI n) (h63 : hi 63 0 = nI wi) (hw : RW n row (hi 71)) (hwi : wi < n) (hQ : Q (some (.int (if cbB (nI n) (row wi) x y = true then 1 else 0))) (HP hi hl f dr t)) : Ct G (0, 0) (d + 3) 285 [.ref 58, .int x, .int y] (HP hi hl f dr t) Q := by
  unfold cbB at hQ
  refine Ct_of (ls := [_, _, _]) m_285.1.2.2.1 (Nat.le_of_ble_eq_true rfl) rfl ?_
  refine wq_aload_n q285_0 rfl ?_
  refine wq_iload_n q285_1 rfl ?_
  refine wq_iload_n q285_2 rfl ?_
  refine cV (As := [_, _]) q285_3 m_233 rfl rfl rfl ⟨by decide, rfl⟩ rfl (c_rcanMove ?_)
  refine wq_if_eq q285_6 (fun c6 => ?_) (fun c6 => ?_)
  · have c := i01 c6
    rw [h26] at c
    rw [c] at hQ
    refine wq_iconst q285_37 ?_
    refine rI q285_38 rfl ?_
    exact hQ
  · have c := i10 c6
    rw [h26] at c
    rw [c] at hQ
    refine wq_iload_n q285_9 rfl ?_
    refine wq_aload_n q285_10 rfl ?_
    refine wq_aload_n q285_11 rfl ?_
    refine wq_getR q285_12 rfl rfl rfl ?_
    refine cV (As := [_]) q285_15 m_213 rfl rfl rfl ⟨by decide, rfl⟩ rfl (c_rteller (Or.inl rfl) hn h26 h63 hw hwi ?_)
    refine wq_icmp_eq q285_18 (fun c18 => ?_) (fun c18 => ?_)
    · rw [decide_eq_true c18] at hQ
      refine wq_iconst q285_37 ?_
      refine rI q285_38 rfl ?_
      exact hQ
    · rw [decide_eq_false c18] at hQ
      refine wq_iload_n q285_21 rfl ?_
      refine wq_aload_n q285_22 rfl ?_
      refine wq_aload_n q285_23 rfl ?_
      refine wq_getR q285_24 rfl rfl rfl ?_
      refine cV (As := [_]) q285_27 m_213 rfl rfl rfl ⟨by decide, rfl⟩ rfl (c_rteller (Or.inl rfl) hn h26 h63 hw hwi ?_)
      refine wq_icmp_eq q285_30 (fun c30 => ?_) (fun c30 => ?_)
      · rw [decide_eq_true c30] at hQ
        refine wq_iconst q285_37 ?_
        refine rI q285_38 rfl ?_
        exact hQ
      · rw [decide_eq_false c30] at hQ
        refine wq_iconst q285_33 ?_
        refine wq_goto q285_34 ?_
        refine rI q285_38 rfl ?_
        exact hQ
theorem c_rbuys_loop {te a b : Nat} {x y : Int32} {T : taX} (hF : RF hi f lw sz n ev wi) (hte : te = sOf row wi) (hsit : ∀ c, c < n → sOf row c < n) (ha : a < n) (hb : b < n)
    (hQ : ∀ hi' t', RNw 72 hi hi' → Q (some (.int (hsA T.1 (hi (f + 1) 3) a b y))) (HP hi' hl f dr t')) :
    ∀ (m v : Nat) (z : taX) (hi' : Nat → Nat → Int32) (t' : Nat) (x7 : Option Value), v + m = ev → RNw 72 hi hi' → RW n z.2.1 (hi' 72) → (∀ j, j < 7 → z.2.1 j = row j) → (∀ q, q < 7 → ∃ k, k < 2 ^ v ∧ z.1 q = nI k) → taR hi f lw sz n (sOf row) wi te 0 true m v z = T →
    wq G (0, 0) (d + 36) 286 23 [some (.ref 58), some (.int (nI a)), some (.int (nI b)), some (.int x), some (.int y), some (.int (hsA z.1 (hi (f + 1) 3) a b y)), some (.int (nI v)), x7] [] (0, 0) (HP hi' hl f dr t') Q := by
  obtain ⟨hf, ⟨hn, hn1, hev, hwi, hc, hc4, hc0⟩, ⟨g1, g2, g3, g4, g5⟩, hFB, hlw⟩ := hF
  have hF : RF hi f lw sz n ev wi := ⟨hf, ⟨hn, hn1, hev, hwi, hc, hc4, hc0⟩, ⟨g1, g2, g3, g4, g5⟩, hFB, hlw⟩
  have hten : te < n := by rw [hte]; exact hsit wi hwi
  have hr : Wok 72 := Or.inr rfl
  have ha31 : a < 31 := by omega
  have hb31 : b < 31 := by omega
  intro m
  induction m with
  | zero =>
    intro v z hi' t' x7 hm hN hw hx hk hT
    obtain rfl : v = ev := by omega
    rw [taR] at hT
    subst hT
    have ec : hI (HP hi' hl f dr t') 58 27 = nI v := (hN.2 27 (by decide)).trans g2
    refine wq_iload q286_23 rfl ?_
    refine wq_aload_n q286_25 rfl ?_
    refine wq_getI q286_26 rfl rfl ?_
    refine wq_icmp_ge q286_29 (fun c29 => ?_) (fun c29 => ?_)
    · refine wq_iload q286_117 rfl ?_
      refine rI q286_119 rfl ?_
      exact hQ hi' t' hN
    · rw [ec] at c29
      exact absurd (nI_le (Nat.le_refl _) (by omega)) c29
  | succ m ih =>
    intro v z hi' t' x7 hm hN hw hx hk hT
    have hvm : v + 1 + m = ev := by omega
    have ec : hI (HP hi' hl f dr t') 58 27 = nI ev := (hN.2 27 (by decide)).trans g2
    have hF' := hN.mv hr hF
    have hfl := hN.fl hr hF
    have h63 : hi' 63 0 = nI wi := (hF'.2.2.1.2.2.1 0 (by decide)).trans hF'.2.1.2.2.2.2.2.2
    have hsx : ∀ c, c < n → sOf z.2.1 c = sOf row c := fun c hc => by unfold sOf; rw [hx c (by omega)]
    have hstx : sOf z.2.1 wi = te := by rw [hsx wi hwi, hte]
    have e65 : hi' 65 (sOf z.2.1 wi * 5 + 3) = hi (f + 2) (te * 5 + 3) := by
      rw [hstx, hF'.2.2.1.2.2.2.1 _ (by omega), hfl.2.2.1]
    have e28 : hi' 72 28 = z.2.1 28 := hw.2.2.2.2.1
    have hse : hsB (z.2.1 28) (nI v) = seB z.2.1 v := rfl
    rw [taR] at hT
    have hkm : ∀ q, q < 7 → ∃ k, k < 2 ^ (v + 1) ∧ z.1 q = nI k := fun q hq => by
      obtain ⟨k, h1, h2⟩ := hk q hq
      exact ⟨k, (pw_mono v (by omega) k h1).1, h2⟩
    refine wq_iload q286_23 rfl ?_
    refine wq_aload_n q286_25 rfl ?_
    refine wq_getI q286_26 rfl rfl ?_
    refine wq_icmp_ge q286_29 (fun c29 => ?_) (fun c29 => ?_)
    · rw [ec, nI_leI (by omega) (by omega)] at c29
      omega
    · refine wq_aload_n q286_32 rfl ?_
      refine wq_aload_n q286_33 rfl ?_
      refine wq_getR q286_34 rfl rfl rfl ?_
      refine wq_iload q286_37 rfl ?_
      refine cV (As := [_, _]) q286_39 m_219 rfl rfl rfl ⟨by decide, rfl⟩ rfl (c_risToldBy (d := d + 33) hr hn hF'.2.2.1.1 h63 hw hwi ?_)
      refine wq_if_ne q286_42 (fun c42 => ?_) (fun c42 => ?_)
      · have c := p10 c42
        rw [e28, e65, hse] at c
        have hl0 : ¬ lvO hi f te = nI v := fun z => c.2 ((lv_eq (n := n) hc4 hev (by omega)).mp z)
        have hto : toB hi f te true v z.2.1 = true := by
          unfold toB
          rw [c.1, decide_eq_false hl0]
          rfl
        obtain ⟨B, hB⟩ : ∃ B, B = hrR (spV hi f lw sz v z.2.1 (sOf row) wi) z.2.1 wi n 0 0 := ⟨_, rfl⟩
        have eT := taS_eq (cost := 0) hto hB
        rw [eT] at hT
        have eq1 : ∀ q, q < 7 → (heR B v te 0 7 0 (z.1, z.2.1)).1 q = (if bt B q = true then z.1 q ||| (1 <<< (nI v &&& 31)) else z.1 q) := by
          intro q hq
          rw [(heR_know (by omega) 7 0 (z.1, z.2.1) (by omega)).2]
          by_cases hbq : bt B q = true
          · rw [if_pos hbq, if_pos ⟨by omega, by omega, hbq⟩]
          · rw [if_neg hbq, if_neg (fun w => hbq w.2.2)]
        have hst := hsA_step (cost := hi (f + 1) 3) (y := y) (hb := z.1) (hb' := (heR B v te 0 7 0 (z.1, z.2.1)).1) (show v < 6 by omega) (hk a (by omega)) (hk b (by omega)) (eq1 a (by omega)) (eq1 b (by omega))
        have hk' : ∀ q, q < 7 → ∃ k, k < 2 ^ (v + 1) ∧ (heR B v te 0 7 0 (z.1, z.2.1)).1 q = nI k := by
          intro q hq
          obtain ⟨k, h1, h2⟩ := hk q hq
          rw [eq1 q hq, h2]
          by_cases hbq : bt B q = true
          · rw [if_pos hbq, (set_or v (by omega) k h1).1]
            exact ⟨_, (pw_mono v (by omega) k h1).2, rfl⟩
          · rw [if_neg hbq]
            exact ⟨k, (pw_mono v (by omega) k h1).1, rfl⟩
        have hkeep : ∀ j, j < 7 → (taS hi f lw sz n (sOf row) wi te 0 true v z).2.1 j = row j := fun j hj => (taS_keep (hi := hi) (f := f) (lw := lw) (sz := sz) (n := n) (wi := wi) (te := te) (v := v) (cost := 0) (hold := true) (s := sOf row) (x := z) (j := j) (show te < 7 by omega) (by omega)).trans (hx j hj)
        rw [eT] at hkeep
        refine wq_aload_n q286_48 rfl ?_
        refine wq_aload_n q286_49 rfl ?_
        refine wq_getR q286_50 rfl rfl rfl ?_
        refine wq_iload q286_53 rfl ?_
        refine wq_iconst q286_55 ?_
        refine cV (As := [_, _, _]) q286_56 m_218 rfl rfl rfl ⟨by decide, rfl⟩ rfl (c_rone (d := d) (B := B) (x1 := z.1) hF' hr hw (by omega) (by rw [hB]; exact (B_eq hfl hsx hwi).symm) (fun hi2 t2 hN2 hw2 hk2 h332 => ?_))
        rw [hstx, hfl.2.2.2.1] at hw2
        have hN3 := hN.tr hN2
        have e633 : hI (HP hi2 hl f dr t2) 63 3 = hi (f + 1) 3 := ((hN3.mv hr hF).2.2.1.2.2.1 3 (by decide)).trans (by rw [(hN3.fl hr hF).2.1])
        refine wq_istore (ls' := [_, _, _, _, _, _, _, _]) q286_59 rfl ?_
        refine wq_iload q286_61 rfl ?_
        refine wq_iload_n q286_63 rfl ?_
        refine cS' (As := [_, _]) q286_64 m_171 rfl rfl rfl (c_rhas ?_)
        refine wq_if_ne q286_67 (fun c67 => ?_) (fun c67 => ?_)
        · have cb := i10 c67
          rw [hsB_bt ha31] at cb
          rw [if_pos cb] at hst
          refine wq_iload q286_73 rfl ?_
          refine wq_iconst q286_75 ?_
          refine wq_aload_n q286_76 rfl ?_
          refine wq_getR q286_77 rfl rfl rfl ?_
          refine wq_iconst q286_80 ?_
          refine aI q286_81 rfl ((show (3 : Int32) = nI 3 from rfl)) (by decide) (by first | decide | omega) ?_
          rw [e633]
          refine wq_isub q286_82 ?_
          refine wq_iadd q286_83 ?_
          refine wq_istore (ls' := [_, _, _, _, _, _, _, _]) q286_84 rfl ?_
          refine wq_iload q286_86 rfl ?_
          refine wq_iload q286_88 rfl ?_
          refine wq_iconst q286_90 ?_
          refine wq_icmp_ne q286_91 (fun c91 => ?_) (fun c91 => ?_)
          · rw [if_neg (show ¬ (y = 1 ∧ bt B b = true) from fun w => c91 w.1)] at hst
            refine wq_iconst q286_107 ?_
            refine wq_isub q286_108 ?_
            refine wq_istore (ls' := [_, _, _, _, _, _, _, _]) q286_109 rfl ?_
            refine wq_iinc (ls' := [_, _, _, _, _, _, _, _]) q286_111 rfl rfl ?_
            refine wq_goto q286_114 ?_
            rw [nI_1, ← hst]
            exact ih (v + 1) ((heR B v te 0 7 0 (z.1, z.2.1)).1, va_up (heR B v te 0 7 0 (z.1, z.2.1)).2 31 ((heR B v te 0 7 0 (z.1, z.2.1)).2 31 + hi (f + 3) (v * 2)), z.2.2 + bc B) hi2 t2 _ hvm hN3 hw2 hkeep hk' hT
          · refine wq_iload q286_94 rfl ?_
            refine wq_iload_n q286_96 rfl ?_
            refine cS' (As := [_, _]) q286_97 m_171 rfl rfl rfl (c_rhas ?_)
            refine wq_if_eq q286_100 (fun c100 => ?_) (fun c100 => ?_)
            · have co := i01 c100
              rw [hsB_bt hb31] at co
              have hno : ¬ (y = 1 ∧ bt B b = true) := fun w => by
                have w2 := w.2
                rw [co] at w2
                cases w2
              rw [if_neg hno] at hst
              refine wq_iconst q286_107 ?_
              refine wq_isub q286_108 ?_
              refine wq_istore (ls' := [_, _, _, _, _, _, _, _]) q286_109 rfl ?_
              refine wq_iinc (ls' := [_, _, _, _, _, _, _, _]) q286_111 rfl rfl ?_
              refine wq_goto q286_114 ?_
              rw [nI_1, ← hst]
              exact ih (v + 1) ((heR B v te 0 7 0 (z.1, z.2.1)).1, va_up (heR B v te 0 7 0 (z.1, z.2.1)).2 31 ((heR B v te 0 7 0 (z.1, z.2.1)).2 31 + hi (f + 3) (v * 2)), z.2.2 + bc B) hi2 t2 _ hvm hN3 hw2 hkeep hk' hT
            · have co := i10 c100
              rw [hsB_bt hb31] at co
              rw [if_pos ⟨c91, co⟩] at hst
              refine wq_iconst q286_103 ?_
              refine wq_goto q286_104 ?_
              refine wq_isub q286_108 ?_
              refine wq_istore (ls' := [_, _, _, _, _, _, _, _]) q286_109 rfl ?_
              refine wq_iinc (ls' := [_, _, _, _, _, _, _, _]) q286_111 rfl rfl ?_
              refine wq_goto q286_114 ?_
              rw [nI_1, ← hst]
              exact ih (v + 1) ((heR B v te 0 7 0 (z.1, z.2.1)).1, va_up (heR B v te 0 7 0 (z.1, z.2.1)).2 31 ((heR B v te 0 7 0 (z.1, z.2.1)).2 31 + hi (f + 3) (v * 2)), z.2.2 + bc B) hi2 t2 _ hvm hN3 hw2 hkeep hk' hT
        · have cb := i01 c67
          rw [hsB_bt ha31] at cb
          rw [if_neg (by rw [cb]; decide)] at hst
          refine wq_goto q286_70 ?_
          refine wq_iinc (ls' := [_, _, _, _, _, _, _, _]) q286_111 rfl rfl ?_
          refine wq_goto q286_114 ?_
          rw [nI_1, ← hst]
          exact ih (v + 1) ((heR B v te 0 7 0 (z.1, z.2.1)).1, va_up (heR B v te 0 7 0 (z.1, z.2.1)).2 31 ((heR B v te 0 7 0 (z.1, z.2.1)).2 31 + hi (f + 3) (v * 2)), z.2.2 + bc B) hi2 t2 _ hvm hN3 hw2 hkeep hk' hT
      · have c := p01 c42
        rw [e28, e65, hse] at c
        have hno : toB hi f te true v z.2.1 = false := by
          unfold toB
          by_cases w : seB z.2.1 v = true
          · have : lvO hi f te = nI v := (lv_eq (n := n) hc4 hev (by omega)).mpr (Decidable.byContradiction (fun q => c ⟨w, q⟩))
            rw [this]
            simp
          · simp [w]
        have e : taS hi f lw sz n (sOf row) wi te 0 true v z = z := by unfold taS; rw [if_neg (by rw [hno]; decide)]
        rw [e] at hT
        refine wq_goto q286_45 ?_
        refine wq_iinc (ls' := [_, _, _, _, _, _, _, _]) q286_111 rfl rfl ?_
        refine wq_goto q286_114 ?_
        rw [nI_1]
        exact ih (v + 1) z hi' t' _ (by omega) hN hw hx hkm hT
/-- what one has by its choice -/
theorem c_rbuysOf {a b : Nat} {x y : Int32} (hF : RF hi f lw sz n ev wi) (hw : RW n row (hi 71)) (hlg : lg ≤ 60) (h33 : hi 71 33 = nI lg) (ha : a < n) (hb : b < n) (hQ : ∀ hi' t', RS hi hi' → Q (some (.int (hsV (hbV hi f lw sz n ev wi row) (hi (f + 1) 3) a b x y))) (HP hi' hl f dr t')) :
    Ct G (0, 0) (d + 36) 286 [.ref 58, .int (nI a), .int (nI b), .int x, .int y] (HP hi hl f dr t) Q := by
  have hn := hF.2.1.1
  have hwi := hF.2.1.2.2.2.1
  obtain ⟨s1, s2, s3⟩ := hw.s hn hwi
  obtain ⟨T, hT⟩ : ∃ T, taR hi f lw sz n (sOf row) wi (sOf row wi) 0 true ev 0 (fun _ => 0, row, 0) = T := ⟨_, rfl⟩
  have ehb : hbV hi f lw sz n ev wi row = T.1 := by
    unfold hbV
    rw [← hT]
    exact taR_cost (by omega) hn ev 0 _ _ rfl (fun _ _ => rfl)
  rw [ehb] at hQ
  unfold hsV at hQ
  refine Ct_of (ls := [_, _, _, _, _, _, _, _]) m_286.1.2.2.1 (Nat.le_of_ble_eq_true rfl) rfl ?_
  refine wq_iload_n q286_0 rfl ?_
  refine wq_if_ne q286_1 (fun c1 => ?_) (fun c1 => ?_)
  · rw [if_neg c1] at hQ
    refine wq_aload_n q286_6 rfl ?_
    refine wq_getR q286_7 rfl rfl rfl ?_
    refine wq_aload_n q286_10 rfl ?_
    refine wq_getR q286_11 rfl rfl rfl ?_
    refine cS' (As := [_, _]) q286_14 m_208 rfl rfl rfl (c_rcopy (Or.inl ⟨rfl, rfl⟩) hlg h33 (fun Z hZ => ?_))
    have hS1 : RS hi (upC hi 72 Z) := rs_cp Z
    have hwZ : RW n row (upC hi 72 Z 72) := by rw [upC_s]; exact hw.ext hn (fun j hj => hZ j (by omega))
    refine wq_iconst q286_17 ?_
    refine wq_istore (ls' := [_, _, _, _, _, _, _, _]) q286_18 rfl ?_
    refine wq_iconst q286_20 ?_
    refine wq_istore (ls' := [_, _, _, _, _, _, _, _]) q286_21 rfl ?_
    have e0 : (0 : Int32) = hsA (fun _ => 0) (upC hi 72 Z (f + 1) 3) a b y := by
      show (0 : Int32) = bc 0 * (3 - _) - (if y = 1 then bc (0 &&& 0) else 0)
      rw [show bc 0 = 0 by decide, Int32.zero_mul]
      by_cases hy : y = 1
      · rw [if_pos hy]; decide
      · rw [if_neg hy]; decide
    have hT' : taR (upC hi 72 Z) f lw sz n (sOf row) wi (sOf row wi) 0 true ev 0 (fun _ => 0, row, 0) = T := by rw [taR_congr (hS1.fl hF)]; exact hT
    have key := c_rbuys_loop (G := G) (d := d) (dr := dr) (hl := hl) (Q := Q) (x := x) (y := y) (T := T) (row := row) (hS1.mv hF) rfl (fun c hc => (hw.s hn hc).1) ha hb (fun hi' t' hN => ?_) ev 0 (fun _ => 0, row, 0) (upC hi 72 Z) t none (by omega) RNw.rf hwZ (fun _ _ => rfl) (fun q hq => ⟨0, by decide, rfl⟩) hT'
    · rw [← e0] at key
      exact key
    · have hq := hQ hi' t' (hN.rs' hS1)
      rw [(hS1.fl hF).2.1]
      exact hq
  · rw [if_pos c1] at hQ
    refine wq_iconst q286_4 ?_
    refine rI q286_5 rfl ?_
    exact hQ hi t RS.rf
theorem c_rbuys {o p x y : Int32} (hF : RF hi f lw sz n ev wi) (hw : RW n row (hi 71)) (hlg : lg ≤ 60) (h33 : hi 71 33 = nI lg)
    (h0 : ¬ (cbB (nI n) (row wi) o p = true ∧ 0 ≤ x ∧ x ≤ 1 ∧ 0 ≤ y ∧ y ≤ 1) → Q (some (.int (-1000000))) (HP (up2 hi 58 0 0) hl f dr t))
    (h1 : ∀ a b hi' t', a < n → b < n → o = nI a → p = nI b → RS hi hi' → Q (some (.int (hsV (hbV hi f lw sz n ev wi row) (hi (f + 1) 3) a b x y))) (HP hi' hl f dr t')) :
    Ct G (0, 0) (d + 37) 287 [.ref 58, .int o, .int p, .int x, .int y] (HP hi hl f dr t) Q := by
  have hn := hF.2.1.1
  have hwi := hF.2.1.2.2.2.1
  have hr0 : RS hi (up2 hi 58 0 0) := RS.upK (by decide) _
  have hF0 := hr0.mv hF
  refine Ct_of (ls := [_, _, _, _, _]) m_287.1.2.2.1 (Nat.le_of_ble_eq_true rfl) rfl ?_
  refine wq_aload_n q287_0 rfl ?_
  refine wq_iconst q287_1 ?_
  refine wq_putI q287_2 rfl rfl rfl rfl ?_
  rw [hpS]
  refine wq_aload_n q287_5 rfl ?_
  refine wq_iload_n q287_6 rfl ?_
  refine wq_iload_n q287_7 rfl ?_
  refine cV (As := [_, _]) q287_8 m_285 rfl rfl rfl ⟨by decide, rfl⟩ rfl (c_rcanBuy hn hF0.2.2.1.1 ((hF0.2.2.1.2.2.1 0 (by decide)).trans hF0.2.1.2.2.2.2.2.2) hw hwi ?_)
  refine wq_if_eq q287_11 (fun c11 => ?_) (fun c11 => ?_)
  · have c := i01 c11
    refine wq_ldc_w q287_47 ?_
    refine rI q287_50 rfl ?_
    exact h0 (fun z => by rw [z.1] at c; cases c)
  · have cb := i10 c11
    refine wq_iload_n q287_14 rfl ?_
    refine wq_i2l q287_15 ?_
    refine wq_lconst q287_16 ?_
    refine wq_lconst q287_17 ?_
    refine cS' (As := [_, _, _]) q287_18 m_170 rfl rfl rfl (c_isIn ?_)
    refine wq_if_eq q287_21 (fun c21 => ?_) (fun c21 => ?_)
    · have c := i01 c21
      refine wq_ldc_w q287_47 ?_
      refine rI q287_50 rfl ?_
      exact h0 (fun z => by rw [iiB_01.mpr ⟨z.2.1, z.2.2.1⟩] at c; cases c)
    · have c1 := iiB_01.mp (i10 c21)
      refine wq_iload q287_24 rfl ?_
      refine wq_i2l q287_26 ?_
      refine wq_lconst q287_27 ?_
      refine wq_lconst q287_28 ?_
      refine cS' (As := [_, _, _]) q287_29 m_170 rfl rfl rfl (c_isIn ?_)
      refine wq_if_eq q287_32 (fun c32 => ?_) (fun c32 => ?_)
      · have c := i01 c32
        refine wq_ldc_w q287_47 ?_
        refine rI q287_50 rfl ?_
        exact h0 (fun z => by rw [iiB_01.mpr z.2.2.2] at c; cases c)
      · obtain ⟨a, b, ha, hb, rfl, rfl⟩ := cbB_N hn cb
        refine wq_aload_n q287_35 rfl ?_
        refine wq_iload_n q287_36 rfl ?_
        refine wq_iload_n q287_37 rfl ?_
        refine wq_iload_n q287_38 rfl ?_
        refine wq_iload q287_39 rfl ?_
        refine cV (As := [_, _, _, _]) q287_41 m_286 rfl rfl rfl ⟨by decide, rfl⟩ rfl (c_rbuysOf (d := d) hF0 hw hlg h33 ha hb (fun hi' t' hS => ?_))
        refine wq_goto q287_44 ?_
        refine rI q287_50 rfl ?_
        have e : hbV (up2 hi 58 0 0) f lw sz n ev wi row = hbV hi f lw sz n ev wi row := by unfold hbV; rw [taR_congr (hr0.fl hF), (hr0.fl hF).2.1]
        rw [e, (hr0.fl hF).2.1]
        exact h1 a b hi' t' ha hb rfl rfl (hr0.tr hS)
theorem c_rrests_loop {a b : Nat} {i : Int32} {hb' : Nat → Int32} (hF : RF hi f lw sz n ev wi) (hw : RW n row (hi 71)) (hlg : lg ≤ 60) (h33 : hi 71 33 = nI lg) (ha : a < n) (hb : b < n) (hbe : hbV hi f lw sz n ev wi row = hb') :
    ∀ (m k : Nat) (c : Int32) (hi' : Nat → Nat → Int32) (t' : Nat) (x6 x7 : Option Value), k + m = 4 → RS hi hi' → (∀ hi2 t2, RS hi hi2 → Q (some (.int (reR hb' (hi (f + 1) 3) a b i m k c))) (HP hi2 hl f dr t2)) →
    wq G (0, 0) (d + 37) 288 27 [some (.ref 58), some (.int (nI a)), some (.int (nI b)), some (.int i), some (.int c), some (.int (nI k)), x6, x7] [] (0, 0) (HP hi' hl f dr t') Q := by
  have hn := hF.2.1.1
  intro m
  induction m with
  | zero =>
    intro k c hi' t' x6 x7 hm hS hQ
    obtain rfl : k = 4 := by omega
    rw [reR] at hQ
    refine wq_iload q288_27 rfl ?_
    refine wq_iconst q288_29 ?_
    refine wq_icmp_ge q288_30 (fun c30 => ?_) (fun c30 => ?_)
    · refine wq_iload_n q288_122 rfl ?_
      refine wq_iconst q288_123 ?_
      refine wq_icmp_ne q288_124 (fun c124 => ?_) (fun c124 => ?_)
      · rw [if_neg c124] at hQ
        refine wq_iconst q288_132 ?_
        refine rI q288_133 rfl ?_
        exact hQ hi' t' hS
      · rw [if_pos c124] at hQ
        refine wq_iload q288_127 rfl ?_
        refine wq_goto q288_129 ?_
        refine rI q288_133 rfl ?_
        exact hQ hi' t' hS
    · exact absurd (by decide) c30
  | succ m ih =>
    intro k c hi' t' x6 x7 hm hS hQ
    obtain ⟨q1, q2⟩ := q_div k (by omega)
    have one : ∀ (h2 : Nat → Nat → Int32) (t2 : Nat) (a b : Nat) (x y : Int32) (Q' : Option Value → ph_H → Prop), a < n → b < n → RS hi h2 → (∀ h3 t3, RS hi h3 → Q' (some (.int (hsV hb' (hi (f + 1) 3) a b x y))) (HP h3 hl f dr t3)) → Ct G (0, 0) (d + 36) 286 [.ref 58, .int (nI a), .int (nI b), .int x, .int y] (HP h2 hl f dr t2) Q' := by
      intro h2 t2 a b x y Q' ha hb hS2 hq
      have e71 : h2 71 = hi 71 := hS2.1 71 (by decide)
      refine c_rbuysOf (hS2.mv hF) (by rw [e71]; exact hw) hlg (by rw [e71]; exact h33) ha hb (fun h3 t3 hS3 => ?_)
      have e : hbV h2 f lw sz n ev wi row = hb' := by unfold hbV; rw [taR_congr (hS2.fl hF), (hS2.fl hF).2.1]; exact hbe
      rw [e, (hS2.fl hF).2.1]
      exact hq h3 t3 (hS2.tr hS3)
    rw [reR] at hQ
    have skip : ∀ h2 t2 x6 x7, RS hi h2 → reB hb' (hi (f + 1) 3) a b k = false → wq G (0, 0) (d + 37) 288 116 [some (.ref 58), some (.int (nI a)), some (.int (nI b)), some (.int i), some (.int c), some (.int (nI k)), some (.int x6), x7] [] (0, 0) (HP h2 hl f dr t2) Q := by
      intro h2 t2 x6 x7 hS2 hno
      rw [if_neg (by rw [hno]; decide)] at hQ
      refine wq_iinc (ls' := [_, _, _, _, _, _, _, _]) q288_116 rfl rfl ?_
      refine wq_goto q288_119 ?_
      rw [nI_1]
      exact ih (k + 1) c h2 t2 _ _ (by omega) hS2 hQ
    refine wq_iload q288_27 rfl ?_
    refine wq_iconst q288_29 ?_
    refine wq_icmp_ge q288_30 (fun c30 => ?_) (fun c30 => ?_)
    · rw [show (4 : Int32) = nI 4 from rfl, nI_leI (by omega) (by omega)] at c30
      omega
    · refine wq_iload q288_33 rfl ?_
      refine wq_iconst q288_35 ?_
      refine wq_idiv q288_36 (by decide) ?_
      rw [q1]
      refine wq_istore (ls' := [_, _, _, _, _, _, _, _]) q288_37 rfl ?_
      refine wq_iload q288_39 rfl ?_
      refine wq_iconst q288_41 ?_
      refine wq_irem q288_42 (by decide) ?_
      rw [q2]
      refine wq_istore (ls' := [_, _, _, _, _, _, _, _]) q288_43 rfl ?_
      refine wq_aload_n q288_45 rfl ?_
      refine wq_iload_n q288_46 rfl ?_
      refine wq_iload_n q288_47 rfl ?_
      refine wq_iconst q288_48 ?_
      refine wq_iload q288_49 rfl ?_
      refine wq_isub q288_51 ?_
      refine wq_iload q288_52 rfl ?_
      refine cV (As := [_, _, _, _]) q288_54 m_286 rfl rfl rfl ⟨by decide, rfl⟩ rfl (one _ _ _ _ _ _ _ ha hb hS (fun h2 t2 hS2 => ?_))
      refine wq_aload_n q288_57 rfl ?_
      refine wq_iload_n q288_58 rfl ?_
      refine wq_iload_n q288_59 rfl ?_
      refine wq_iload q288_60 rfl ?_
      refine wq_iload q288_62 rfl ?_
      refine cV (As := [_, _, _, _]) q288_64 m_286 rfl rfl rfl ⟨by decide, rfl⟩ rfl (one _ _ _ _ _ _ _ ha hb hS2 (fun h3 t3 hS3 => ?_))
      refine wq_icmp_gt q288_67 (fun c67 => ?_) (fun c67 => ?_)
      · refine skip _ _ _ _ hS3 ?_
        unfold reB
        rw [decide_eq_false (Int32.not_le.mpr c67)]
        rfl
      · refine wq_aload_n q288_70 rfl ?_
        refine wq_iload_n q288_71 rfl ?_
        refine wq_iload_n q288_72 rfl ?_
        refine wq_iconst q288_73 ?_
        refine wq_iload q288_74 rfl ?_
        refine wq_isub q288_76 ?_
        refine wq_iload q288_77 rfl ?_
        refine cV (As := [_, _, _, _]) q288_79 m_286 rfl rfl rfl ⟨by decide, rfl⟩ rfl (one _ _ _ _ _ _ _ hb ha hS3 (fun h4 t4 hS4 => ?_))
        refine wq_aload_n q288_82 rfl ?_
        refine wq_iload_n q288_83 rfl ?_
        refine wq_iload_n q288_84 rfl ?_
        refine wq_iload q288_85 rfl ?_
        refine wq_iload q288_87 rfl ?_
        refine cV (As := [_, _, _, _]) q288_89 m_286 rfl rfl rfl ⟨by decide, rfl⟩ rfl (one _ _ _ _ _ _ _ hb ha hS4 (fun h5 t5 hS5 => ?_))
        refine wq_icmp_le q288_92 (fun c92 => ?_) (fun c92 => ?_)
        · have hyes : reB hb' (hi (f + 1) 3) a b k = true := by
            unfold reB
            rw [decide_eq_true (Int32.not_lt.mp c67), decide_eq_true c92]
            rfl
          rw [if_pos hyes] at hQ
          refine wq_iload q288_98 rfl ?_
          refine wq_iload_n q288_100 rfl ?_
          refine wq_icmp_ne q288_101 (fun c101 => ?_) (fun c101 => ?_)
          · rw [if_neg c101] at hQ
            refine wq_iinc (ls' := [_, _, _, _, _, _, _, _]) q288_113 rfl rfl ?_
            refine wq_iinc (ls' := [_, _, _, _, _, _, _, _]) q288_116 rfl rfl ?_
            refine wq_goto q288_119 ?_
            rw [nI_1]
            exact ih (k + 1) _ h5 t5 _ _ (by omega) hS5 hQ
          · rw [if_pos c101] at hQ
            refine wq_bipush q288_104 ?_
            refine wq_iload q288_106 rfl ?_
            refine wq_imul q288_108 ?_
            refine wq_iload q288_109 rfl ?_
            refine wq_iadd q288_111 ?_
            refine rI q288_112 rfl ?_
            exact hQ h5 t5 hS5
        · refine wq_goto q288_95 ?_
          refine skip _ _ _ _ hS5 ?_
          unfold reB
          rw [decide_eq_false c92, Bool.and_false]
theorem c_rrests {o p i : Int32} (hF : RF hi f lw sz n ev wi) (hw : RW n row (hi 71)) (hlg : lg ≤ 60) (h33 : hi 71 33 = nI lg)
    (h0 : ¬ (cbB (nI n) (row wi) o p = true ∧ -1 ≤ i) → Q (some (.int (-1))) (HP (up2 hi 58 0 0) hl f dr t))
    (h1 : ∀ a b hi' t', a < n → b < n → o = nI a → p = nI b → RS hi hi' → Q (some (.int (reR (hbV hi f lw sz n ev wi row) (hi (f + 1) 3) a b i 4 0 0))) (HP hi' hl f dr t')) :
    Ct G (0, 0) (d + 37) 288 [.ref 58, .int o, .int p, .int i] (HP hi hl f dr t) Q := by
  have hn := hF.2.1.1
  have hwi := hF.2.1.2.2.2.1
  have hr0 : RS hi (up2 hi 58 0 0) := RS.upK (by decide) _
  have hF0 := hr0.mv hF
  refine Ct_of (ls := [_, _, _, _, _, _, _, _]) m_288.1.2.2.1 (Nat.le_of_ble_eq_true rfl) rfl ?_
  refine wq_aload_n q288_0 rfl ?_
  refine wq_iconst q288_1 ?_
  refine wq_putI q288_2 rfl rfl rfl rfl ?_
  rw [hpS]
  refine wq_aload_n q288_5 rfl ?_
  refine wq_iload_n q288_6 rfl ?_
  refine wq_iload_n q288_7 rfl ?_
  refine cV (As := [_, _]) q288_8 m_285 rfl rfl rfl ⟨by decide, rfl⟩ rfl (c_rcanBuy hn hF0.2.2.1.1 ((hF0.2.2.1.2.2.1 0 (by decide)).trans hF0.2.1.2.2.2.2.2.2) hw hwi ?_)
  refine wq_if_eq q288_11 (fun c11 => ?_) (fun c11 => ?_)
  · have c := i01 c11
    refine wq_iconst q288_19 ?_
    refine rI q288_20 rfl ?_
    exact h0 (fun z => by rw [z.1] at c; cases c)
  · have cb := i10 c11
    refine wq_iload_n q288_14 rfl ?_
    refine wq_iconst q288_15 ?_
    refine wq_icmp_ge q288_16 (fun c16 => ?_) (fun c16 => ?_)
    · obtain ⟨a, b, ha, hb, rfl, rfl⟩ := cbB_N hn cb
      refine wq_iconst q288_21 ?_
      refine wq_istore (ls' := [_, _, _, _, _, _, _, _]) q288_22 rfl ?_
      refine wq_iconst q288_24 ?_
      refine wq_istore (ls' := [_, _, _, _, _, _, _, _]) q288_25 rfl ?_
      exact c_rrests_loop (d := d) (row := row) hF hw hlg h33 ha hb rfl 4 0 0 _ t _ _ (by omega) hr0 (fun hi2 t2 hS => h1 a b hi2 t2 ha hb rfl rfl hS)
    · refine wq_iconst q288_19 ?_
      refine rI q288_20 rfl ?_
      exact h0 (fun z => c16 z.2)
end REFBUY
