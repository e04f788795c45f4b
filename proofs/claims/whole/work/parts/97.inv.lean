/-! THE TWO SYSTEMS side by side: scenes, acts, diaries -/
/-- the reference's log is what the diary has of the latest days -/
def LG (D : Nat → Int32) (dy : Nat) (w : Nat → Int32) : Prop := w 33 = nI (min dy 60) ∧ ∀ i k, i < min dy 60 → k < 3 → w (34 + 3 * i + k) = D ((dy - min dy 60 + i) % 100 * 3 + k)
/-- a scene of the class, with the diary, is a row of the reference -/
def RO1 (n : Nat) (D row w : Nat → Int32) (dy : Nat) : Prop := RW n row w ∧ KN n row w ∧ ROk n row ∧ row 32 = nI dy ∧ dy ≤ 9999 ∧ LG D dy w
theorem RW.rext {n : Nat} {row row' w : Nat → Int32} (h : RW n row w) (hn : n ≤ 7) (he : ∀ j, j < 33 → row' j = row j) : RW n row' w :=
  h.scal hn (fun j hj => he j (by omega)) (fun _ _ _ => rfl) (h.2.2.2.2.1.trans (he 28 (by decide)).symm) (h.2.2.2.2.2.1.trans (he 30 (by decide)).symm) (h.2.2.2.2.2.2.1.trans (he 31 (by decide)).symm) (h.2.2.2.2.2.2.2.1.trans (he 29 (by decide)).symm) (h.2.2.2.2.2.2.2.2.trans (he 32 (by decide)).symm)
theorem LG.d {D D' : Nat → Int32} {dy : Nat} {w : Nat → Int32} (h : LG D dy w) (he : ∀ i k, i < min dy 60 → k < 3 → D' ((dy - min dy 60 + i) % 100 * 3 + k) = D ((dy - min dy 60 + i) % 100 * 3 + k)) : LG D' dy w := ⟨h.1, fun i k hi hk => (h.2 i k hi hk).trans (he i k hi hk).symm⟩
theorem LG.w {D : Nat → Int32} {dy : Nat} {w w' : Nat → Int32} (h : LG D dy w) (he : ∀ j, 33 ≤ j → j < 34 + 3 * min dy 60 → w' j = w j) : LG D dy w' := ⟨(he 33 (Nat.le_refl _) (by omega)).trans h.1, fun i k hi hk => (he _ (by omega) (by omega)).trans (h.2 i k hi hk)⟩
theorem RO1.ext {n dy : Nat} {D D' row row' w w' : Nat → Int32} (h : RO1 n D row w dy) (hn : n ≤ 7) (h1 : ∀ j, j < 33 → row' j = row j) (h2 : ∀ j, j < 34 + 3 * min dy 60 → w' j = w j) (h3 : ∀ i k, i < min dy 60 → k < 3 → D' ((dy - min dy 60 + i) % 100 * 3 + k) = D ((dy - min dy 60 + i) % 100 * 3 + k)) : RO1 n D' row' w' dy := by
  obtain ⟨a1, a2, a3, a4, a5, a6⟩ := h
  refine ⟨(a1.ext hn (fun j hj => h2 j (by omega))).rext hn h1, fun p hp => ?_, a3.ext (fun p hp => h1 _ (by omega)) (h1 31 (by decide)), (h1 32 (by decide)).trans a4, a5, (a6.w (fun j _ hj => h2 j hj)).d h3⟩
  rw [h2 _ (by omega), h1 _ (by omega)]
  exact a2 p hp
/-- an act of the class -/
def CStep (row' : Nat → Int32) (log : Bool) (nx kp dy : Nat) (hc hc' : Nat → Nat → Int32) : Prop := hc' 39 = (if log = true then edR row' else row') ∧ hc' 49 = va_cpy (hc 39) (hc 49) 0 (nx * 33) 33 ∧ hc' 48 = va_up (va_up (hc 48) 1 (nI ((nx + 1) % 40))) 2 (nI (min (kp + 1) 40)) ∧ hc' 45 = (if log = true then dpR (hc 45) row' dy else hc 45) ∧ Same (45 :: 48 :: 49 :: 52 :: 39 :: scr0) hc hc'
theorem CStep.of_act {hc hc' : Nat → Nat → Int32} {row' : Nat → Int32} {nx kp dy : Nat} (h : actP hc row' false nx kp dy hc') : CStep row' false nx kp dy hc hc' := h
theorem CStep.of_day {hc hc' : Nat → Nat → Int32} {nx kp dy : Nat} (h : actP hc (edR (hc 39)) true nx kp dy hc') : CStep (hc 39) true nx kp dy hc hc' := h
theorem CStep.of_yr {hc hc' : Nat → Nat → Int32} {row' : Nat → Int32} {nx kp dy : Nat} (h : yrP hc row' nx kp dy hc') : CStep row' true nx kp dy hc hc' := h
/-- scenes and what is kept: of the class in hc, of the reference in hr -/
def JS (hc hr : Nat → Nat → Int32) (n nx kp dy : Nat) : Prop := AcK hc nx kp ∧ hr 58 38 = nI kp ∧ RO1 n (hc 45) (hc 39) (hr 71) dy ∧
  ∃ ds : Nat → Nat, ds kp = dy ∧ (∀ i, i < kp → ds i ≤ ds (i + 1) ∧ ds (i + 1) ≤ ds i + 1) ∧ ∀ i, i < kp → RO1 n (hc 45) (fun j => hc 49 ((nx + 40 - kp + i) % 40 * 33 + j)) (fun j => hr 74 (214 * i + j)) (ds i)
theorem ds_le {ds : Nat → Nat} {kp : Nat} (h : ∀ i, i < kp → ds i ≤ ds (i + 1) ∧ ds (i + 1) ≤ ds i + 1) : ∀ (m i : Nat), i + m ≤ kp → ds i ≤ ds (i + m) ∧ ds (i + m) ≤ ds i + m := by
  intro m
  induction m with
  | zero => intro i _; exact ⟨Nat.le_refl _, Nat.le_refl _⟩
  | succ m ih =>
    intro i hi
    have h1 := ih i (by omega)
    have h2 := h (i + m) (by omega)
    rw [show i + (m + 1) = i + m + 1 by omega]
    omega
theorem dpR_o {D row : Nat → Int32} {dy d k : Nat} (hk : k < 3) (h : ¬ d % 100 = dy % 100) : dpR D row dy (d % 100 * 3 + k) = D (d % 100 * 3 + k) := by
  unfold dpR
  rw [vu_o _ _ (by omega), vu_o _ _ (by omega), vu_o _ _ (by omega)]
/-- a diary with a day more tells the same of earlier days -/
theorem LG.more {D row w : Nat → Int32} {dy di : Nat} (h : LG D di w) (h1 : di ≤ dy) (h2 : dy ≤ di + 39) : LG (dpR D row dy) di w := by
  refine h.d (fun i k hi hk => dpR_o hk ?_)
  omega
theorem LG.dark {D row' w0 w w' : Nat → Int32} {n dy lg : Nat} (h : LG D dy w0) (hw : RW n row' w) (h33 : ∀ j, 33 ≤ j → w j = w0 j) (hlg0 : w0 33 = nI lg) (hlg : lg ≤ 60) (hd : DkP n lg w w') : LG (dpR D row' dy) (dy + 1) w' := by
  obtain ⟨-, -, -, -, -, -, e33, elog, e1, e2, e3⟩ := hd
  have hl : lg = min dy 60 := (nI_eq (by omega) (by omega)).mp (hlg0.symm.trans h.1)
  subst hl
  refine ⟨by rw [e33]; congr 1; omega, fun i k hi hk => ?_⟩
  by_cases hlast : i + 1 < min (dy + 1) 60
  · rw [elog i k (by omega) hk]
    have hidx : i + (if min dy 60 = 60 then 1 else 0) < min dy 60 := by split <;> omega
    rw [h33 _ (by omega), h.2 _ k hidx hk]
    have hday : dy - min dy 60 + (i + (if min dy 60 = 60 then 1 else 0)) = dy + 1 - min (dy + 1) 60 + i := by split <;> omega
    rw [hday, dpR_o hk (by omega)]
  · have hi' : i = min (min dy 60 + 1) 60 - 1 := by omega
    have hdd : dy + 1 - min (dy + 1) 60 + i = dy := by omega
    rw [hdd, hi']
    unfold dpR
    match k, hk with
    | 0, _ => rw [Nat.add_zero, Nat.add_zero, e1, vu_o _ _ (by omega), vu_o _ _ (by omega)]; exact hw.2.2.2.2.1.trans (vu_s _ _ _).symm
    | 1, _ => rw [e2, vu_o _ _ (by omega), vu_s]; exact hw.2.2.2.2.2.2.2.1
    | 2, _ => rw [e3, vu_s]; exact hw.2.2.2.2.2.2.1
/-- one act on both sides -/
theorem JS.step {hc hr hc' hr' : Nat → Nat → Int32} {n nx kp dy : Nat} {row' : Nat → Int32} {log : Bool} (h : JS hc hr n nx kp dy) (hn : n ≤ 7) (h1 : CStep row' log nx kp dy hc hc') (h2 : RStep n kp row' log hr hr') (h32 : row' 32 = nI dy) (hrok : ROk n row') (hlast : log = true → dy < 9999) : JS hc' hr' n ((nx + 1) % 40) (min (kp + 1) 40) (if log = true then dy + 1 else dy) := by
  obtain ⟨⟨a1, a2, a3, a4⟩, b1, b2, ds, d1, d2, d3⟩ := h
  obtain ⟨c39, c49, c48, c45, -⟩ := h1
  obtain ⟨⟨-, r38, rU⟩, rno, ryes⟩ := h2
  have hdl := ds_le d2
  have hdy1 : dy ≤ (if log = true then dy + 1 else dy) ∧ (if log = true then dy + 1 else dy) ≤ dy + 1 := by split <;> omega
  have hD : ∀ (row w : Nat → Int32) (di : Nat), RO1 n (hc 45) row w di → di ≤ dy → dy ≤ di + 39 → RO1 n (hc' 45) row w di := by
    intro row w di hh hd1 hd2
    obtain ⟨k1, k2, k3, k4, k5, k6⟩ := hh
    refine ⟨k1, k2, k3, k4, k5, ?_⟩
    rw [c45]
    cases log with
    | true => exact k6.more hd1 hd2
    | false => exact k6
  obtain ⟨ds', hds⟩ : ∃ ds' : Nat → Nat, ∀ i, ds' i = if i < min (kp + 1) 40 then ds (i + (if kp = 40 then 1 else 0)) else (if log = true then dy + 1 else dy) := ⟨_, fun _ => rfl⟩
  refine ⟨⟨by rw [c48, vu_o _ _ (by decide), vu_s], Nat.mod_lt _ (by decide), by rw [c48, vu_s], by omega⟩, r38, ?_, ds', ?_, fun i hi => ?_, fun i hi => ?_⟩
  · cases log with
    | false =>
      obtain ⟨q1, q2, q3⟩ := rno rfl
      rw [c39, c45]
      exact ⟨q1, q2, hrok, h32, b2.2.2.2.2.1, b2.2.2.2.2.2.w (fun j hj _ => q3 j hj)⟩
    | true =>
      obtain ⟨w, lg, q1, q2, q3, q4, q5, q6⟩ := ryes rfl
      have q7 := q1.dark hn q6
      rw [c39, c45]
      have := hlast rfl
      refine ⟨q7.1, q7.2, ed_rok hrok hn, ?_, ?_, b2.2.2.2.2.2.dark q1 q3 q4 q5 q6⟩
      · show edR row' 32 = nI (dy + 1)
        rw [edR_32, h32, nI_1]
      · show dy + 1 ≤ 9999
        omega
  · rw [hds, if_neg (show ¬ min (kp + 1) 40 < min (kp + 1) 40 by omega)]
  · rw [hds, hds, if_pos hi]
    by_cases hl : i + 1 < min (kp + 1) 40
    · rw [if_pos hl]
      have hx : i + (if kp = 40 then 1 else 0) < kp := by split <;> omega
      have := d2 _ hx
      rw [show i + 1 + (if kp = 40 then 1 else 0) = i + (if kp = 40 then 1 else 0) + 1 by omega]
      exact this
    · rw [if_neg hl]
      have hx : i + (if kp = 40 then 1 else 0) = kp := by split <;> omega
      rw [hx, d1]
      omega
  · rw [hds, if_pos hi]
    by_cases hl : i + 1 < min (kp + 1) 40
    · have hx : i + (if kp = 40 then 1 else 0) < kp := by split <;> omega
      have hb := hdl (kp - (i + (if kp = 40 then 1 else 0))) (i + (if kp = 40 then 1 else 0)) (by omega)
      rw [show i + (if kp = 40 then 1 else 0) + (kp - (i + (if kp = 40 then 1 else 0))) = kp by omega, d1] at hb
      have hix : ((nx + 1) % 40 + 40 - min (kp + 1) 40 + i) % 40 = (nx + 40 - kp + (i + (if kp = 40 then 1 else 0))) % 40 := by split <;> omega
      have hne : ¬ (nx + 40 - kp + (i + (if kp = 40 then 1 else 0))) % 40 = nx := by split <;> omega
      have hz : kp - (i + (if kp = 40 then 1 else 0)) ≤ 39 := by split <;> omega
      have hz2 : dy ≤ ds (i + (if kp = 40 then 1 else 0)) + 39 := by omega
      refine (hD _ _ _ (d3 _ hx) (by omega) hz2).ext hn (fun j hj => ?_) (fun j hj => ?_) (fun _ _ _ _ => rfl)
      · rw [hix, c49]
        generalize (nx + 40 - kp + (i + (if kp = 40 then 1 else 0))) % 40 = q at hne ⊢
        exact pk_cpy_out (by omega)
      · have := rU.1 i j (by omega) (by omega)
        rw [this]
    · have hx : i + (if kp = 40 then 1 else 0) = kp := by split <;> omega
      have hi' : i = min (kp + 1) 40 - 1 := by omega
      have hix : ((nx + 1) % 40 + 40 - min (kp + 1) 40 + i) % 40 = nx := by omega
      rw [hx, d1]
      refine (hD _ _ _ b2 (Nat.le_refl _) (by omega)).ext hn (fun j hj => ?_) (fun j hj => ?_) (fun _ _ _ _ => rfl)
      · rw [hix, c49, pk_cpy_in (by omega) (by omega)]
        congr 1
        omega
      · rw [hi']
        exact rU.2 j (by omega)
/-- the latest act is undone on both sides -/
theorem JS.undo {hc hr hc' hr' : Nat → Nat → Int32} {n nx kp dy : Nat} (h : JS hc hr n nx kp dy) (hn : n ≤ 7) (hkp : 0 < kp) (h1 : hc' = bbA hc 39 nx kp) (h2 : RuP kp hr hr') : ∃ dy', JS hc' hr' n ((nx + 39) % 40) (kp - 1) dy' := by
  obtain ⟨⟨a1, a2, a3, a4⟩, b1, b2, ds, d1, d2, d3⟩ := h
  obtain ⟨u1, u2, u3, u4⟩ := h2
  have e39 : hc' 39 = va_cpy (hc 49) (hc 39) ((nx + 39) % 40 * 33) 0 33 := by rw [h1]; rfl
  have e45 : hc' 45 = hc 45 := by rw [h1]; rfl
  have e49 : hc' 49 = hc 49 := by rw [h1]; rfl
  have e481 : hc' 48 1 = nI ((nx + 39) % 40) := by rw [h1]; rfl
  have e482 : hc' 48 2 = nI (kp - 1) := by rw [h1]; rfl
  have e74 : hr' 74 = hr 74 := u1 74 (by decide) (by decide)
  refine ⟨ds (kp - 1), ⟨e481, Nat.mod_lt _ (by decide), e482, by omega⟩, u3, ?_, ds, rfl, fun i hi => d2 i (by omega), fun i hi => ?_⟩
  · have hlast := d3 (kp - 1) (by omega)
    have hix : (nx + 40 - kp + (kp - 1)) % 40 = (nx + 39) % 40 := by omega
    refine hlast.ext hn (fun j hj => ?_) (fun j hj => ?_) (fun _ _ _ _ => by rw [e45])
    · rw [e39, pk_cpy_in (by omega) (by omega), hix]
      rfl
    · exact u4 j (by omega)
  · have hix : ((nx + 39) % 40 + 40 - (kp - 1) + i) % 40 = (nx + 40 - kp + i) % 40 := by omega
    rw [e45, e49, e74, hix]
    exact d3 i (by omega)
