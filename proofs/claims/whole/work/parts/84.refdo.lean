/-! THE REFERENCE: acts -/
/-- but for what an act touches nothing has changed -/
def RaF (hi hi' : Nat → Nat → Int32) : Prop := (∀ a, a ≠ 58 → a ≠ 62 → a ≠ 71 → a ≠ 73 → a ≠ 74 → hi' a = hi a) ∧ (∀ k, k ∉ gtF → k ≠ 0 → k ≠ 38 → hi' 58 k = hi 58 k)
/-- an act was remembered -/
def RaP (a : Nat) (hi hi' : Nat → Nat → Int32) : Prop := RaF hi hi' ∧ hi' 58 38 = nI (min (a + 1) 40) ∧ RmP a (hi 74) (hi 71) (hi' 74)
/-- an act of the reference: row' is the class's row behind it (for a day: ahead of its end) -/
def RStep (n a : Nat) (row' : Nat → Int32) (log : Bool) (hi hi' : Nat → Nat → Int32) : Prop := RaP a hi hi' ∧ (log = false → RW n row' (hi' 71) ∧ KN n row' (hi' 71) ∧ ∀ j, 33 ≤ j → hi' 71 j = hi 71 j) ∧
  (log = true → ∃ w lg, RW n row' w ∧ KN n row' w ∧ (∀ j, 33 ≤ j → w j = hi 71 j) ∧ hi 71 33 = nI lg ∧ lg ≤ 60 ∧ DkP n lg w (hi' 71))
theorem RaF.rf {hi : Nat → Nat → Int32} : RaF hi hi := ⟨fun _ _ _ _ _ _ => rfl, fun _ _ _ _ => rfl⟩
theorem RaF.tr {hi hi1 hi2 : Nat → Nat → Int32} (h : RaF hi hi1) (h' : RaF hi1 hi2) : RaF hi hi2 := ⟨fun a a1 a2 a3 a4 a5 => (h'.1 a a1 a2 a3 a4 a5).trans (h.1 a a1 a2 a3 a4 a5), fun k k1 k2 k3 => (h'.2 k k1 k2 k3).trans (h.2 k k1 k2 k3)⟩
theorem RaF.fl {hi hi' : Nat → Nat → Int32} {f : Nat} {lw : Option Nat} {sz n ev wi : Nat} (h : RaF hi hi') (hF : RF hi f lw sz n ev wi) : FLs f lw hi hi' := by
  have hA : ∀ a, a < 58 → hi' a = hi a := fun a ha => h.1 a (by omega) (by omega) (by omega) (by omega) (by omega)
  have hf' : f = 3 ∨ f = 7 := hF.1
  refine ⟨hA _ (by omega), hA _ (by omega), hA _ (by omega), hA _ (by omega), fun a ha => ?_⟩
  rcases hF.2.2.2.2 with ⟨e1, -⟩ | ⟨k, L, b, p, l, sg, e1, e2, -⟩
  · rw [e1] at ha; cases ha
  · rw [e1] at ha
    cases ha
    exact ⟨hA _ (by omega), hA _ (by omega)⟩
theorem RaF.mv {hi hi' : Nat → Nat → Int32} {f : Nat} {lw : Option Nat} {sz n ev wi : Nat} (h : RaF hi hi') (hF : RF hi f lw sz n ev wi) : RF hi' f lw sz n ev wi :=
  hF.mv (h.fl hF) (h.1 60 (by decide) (by decide) (by decide) (by decide) (by decide)) (h.1 61 (by decide) (by decide) (by decide) (by decide) (by decide)) (h.1 63 (by decide) (by decide) (by decide) (by decide) (by decide)) (h.1 65 (by decide) (by decide) (by decide) (by decide) (by decide)) (h.1 67 (by decide) (by decide) (by decide) (by decide) (by decide)) (h.2 26 (by decide) (by decide) (by decide)) (h.2 27 (by decide) (by decide) (by decide)) (h.2 34 (by decide) (by decide) (by decide))
theorem RNw.ra {hi hi' : Nat → Nat → Int32} (h : RNw 71 hi hi') : RaF hi hi' := ⟨fun a a1 a2 a3 a4 _ => h.1 a a1 a2 a4 a3, fun k k1 _ _ => h.2 k k1⟩
theorem ra_thrown {hi : Nat → Nat → Int32} (x : Int32) : RaF hi (up2 hi 58 0 x) := ⟨fun a a1 _ _ _ _ => up2_o _ _ _ a1, fun k _ k2 _ => by rw [up2_s, vu_o _ _ k2]⟩
theorem ra_rem {hi : Nat → Nat → Int32} (x : Int32) (U : Nat → Int32) : RaF hi (upC (up2 hi 58 38 x) 74 U) := ⟨fun a a1 _ _ _ a5 => by rw [upC_o _ _ a5, up2_o _ _ _ a1], fun k _ _ k3 => by rw [upC_o _ _ (by decide), up2_s, vu_o _ _ k3]⟩
/-- behind the remembering, and a change of the row -/
theorem RaP.of {hi hi0 hi' : Nat → Nat → Int32} {a : Nat} {U : Nat → Int32} (h0 : RaF hi hi0) (e71 : hi0 71 = hi 71) (e74 : hi0 74 = hi 74) (hU : RmP a (hi0 74) (hi0 71) U) (h : RNw 71 (upC (up2 hi0 58 38 (nI (min (a + 1) 40))) 74 U) hi') : RaP a hi hi' := by
  refine ⟨h0.tr ((ra_rem _ U).tr h.ra), ?_, ?_⟩
  · rw [h.2 38 (by decide)]
    rfl
  · rw [h.1 74 (by decide) (by decide) (by decide) (by decide), upC_s, ← e71, ← e74]
    exact hU
section REFDO
variable {G : ph_G} {d f dr t n r ev wi sz lg a : Nat} {hi hi' : Nat → Nat → Int32} {hl : Nat → Nat → Int64} {Q : Option Value → ph_H → Prop} {row : Nat → Int32} {lw : Option Nat}
theorem c_rsee {x : Int32} (hF : RF hi f lw sz n ev wi) (hw : RW n row (hi 71)) (hk : KN n row (hi 71)) (ha : a ≤ 40) (h38 : hi 58 38 = nI a)
    (h0 : canB hi f row n 0 x (-1) = false → Q (some (.int (-1))) (HP (up2 hi 58 0 0) hl f dr t))
    (h1 : canB hi f row n 0 x (-1) = true → ∀ hi' t', RStep n a (chg hi f lw sz n ev (sOf row) wi row 0 x (-1)) false hi hi' → Q (some (.int (chg hi f lw sz n ev (sOf row) wi row 0 x (-1) 28))) (HP hi' hl f dr t')) :
    Ct G (0, 0) (d + 2) 230 [.ref 58, .int x] (HP hi hl f dr t) Q := by
  have hn := hF.2.1.1
  have hb : canB hi f row n 0 x (-1) = (inB x (up2 hi 58 0 0 58 27) && !hsB (up2 hi 58 0 0 71 28) x) := by
    unfold canB hsB
    rw [if_pos rfl, hf3 hF, hF.2.1.2.2.2.2.2.1, show up2 hi 58 0 0 58 27 = nI ev from hF.2.2.1.2.1, show up2 hi 58 0 0 71 28 = row 28 from hw.2.2.2.2.1]
    rfl
  have ech : chg hi f lw sz n ev (sOf row) wi row 0 x (-1) = va_up row 28 (row 28 ||| (1 <<< (x &&& 31))) := by unfold chg; rw [if_pos rfl]
  refine Ct_of (ls := [_, _]) m_230.1.2.2.1 (Nat.le_of_ble_eq_true rfl) rfl ?_
  refine wq_aload_n q230_0 rfl ?_
  refine wq_iconst q230_1 ?_
  refine wq_putI q230_2 rfl rfl rfl rfl ?_
  rw [hpS]
  refine wq_aload_n q230_5 rfl ?_
  refine wq_aload_n q230_6 rfl ?_
  refine wq_getR q230_7 rfl rfl rfl ?_
  refine wq_iload_n q230_10 rfl ?_
  refine cV (As := [_, _]) q230_11 m_229 rfl rfl rfl ⟨by decide, rfl⟩ rfl (c_rcanSee (Or.inl rfl) ?_)
  refine wq_if_ne q230_14 (fun c14 => ?_) (fun c14 => ?_)
  · have c := i10 c14
    rw [← hb] at c
    have h1 := h1 c
    rw [ech] at h1
    refine wq_aload_n q230_19 rfl ?_
    refine cV (As := []) q230_20 m_228 rfl rfl rfl ⟨by decide, rfl⟩ rfl (c_remember ha h38 (fun U' hU => ?_))
    have e28 : hI (HP (upC (up2 (up2 hi 58 0 0) 58 38 (nI (min (a + 1) 40))) 74 U') hl f dr t) 71 28 = row 28 := hw.2.2.2.2.1
    refine wq_aload_n q230_23 rfl ?_
    refine wq_getR q230_24 rfl rfl rfl ?_
    refine wq_bipush q230_27 ?_
    refine wq_dup2 q230_29 rfl rfl ?_
    refine aI q230_30 rfl ((show (28 : Int32) = nI 28 from rfl)) (by decide) (by first | decide | omega) ?_
    rw [e28]
    refine wq_iconst q230_31 ?_
    refine wq_iload_n q230_32 rfl ?_
    refine wq_ishl q230_33 ?_
    refine wq_ior q230_34 ?_
    refine sI q230_35 rfl ((show (28 : Int32) = nI 28 from rfl)) (by decide) (by first | decide | omega) rfl ?_
    rw [hpS, up2_C]
    refine wq_aload_n q230_36 rfl ?_
    refine wq_getR q230_37 rfl rfl rfl ?_
    refine wq_bipush q230_40 ?_
    refine aI q230_42 rfl ((show (28 : Int32) = nI 28 from rfl)) (by decide) (by first | decide | omega) ?_
    refine rI q230_43 rfl ?_
    refine h1 _ t ⟨RaP.of (ra_thrown 0) rfl rfl hU (RNw.rf.up (by decide) _), fun _ => ⟨?_, ?_, fun j hj => ?_⟩, fun z => absurd z (by decide)⟩
    · rw [upC_s]
      exact hw.see hn _
    · rw [upC_s]
      exact hk.see hn _
    · rw [upC_s, vu_o _ _ (by omega)]
      rfl
  · have c := i01 c14
    rw [← hb] at c
    refine wq_iconst q230_17 ?_
    refine rI q230_18 rfl ?_
    exact h0 c
theorem c_rtell (hF : RF hi f lw sz n ev wi) (hw : RW n row (hi 71)) (hk : KN n row (hi 71)) (ha : a ≤ 40) (h38 : hi 58 38 = nI a)
    (h0 : canB hi f row n 2 (-1) (-1) = false → Q (some (.int (-1))) (HP (up2 hi 58 0 0) hl f dr t))
    (h1 : canB hi f row n 2 (-1) (-1) = true → ∀ hi' t', RStep n a (chg hi f lw sz n ev (sOf row) wi row 2 (-1) (-1)) false hi hi' → Q (some (.int (chg hi f lw sz n ev (sOf row) wi row 2 (-1) (-1) 29))) (HP hi' hl f dr t')) :
    Ct G (0, 0) (d + 37) 232 [.ref 58] (HP hi hl f dr t) Q := by
  have hb : canB hi f row n 2 (-1) (-1) = (decide (0 < up2 hi 58 0 0 58 26) && decide (up2 hi 58 0 0 71 29 = 0) && decide (up2 hi 58 0 0 71 30 < up2 hi 58 0 0 63 2)) := by
    unfold canB
    rw [if_neg (by decide), if_neg (by decide), if_pos rfl, hF.2.1.2.2.2.2.1, show up2 hi 58 0 0 58 26 = nI n from hF.2.2.1.1, show up2 hi 58 0 0 71 29 = row 30 from hw.2.2.2.2.2.1, show up2 hi 58 0 0 71 30 = row 31 from hw.2.2.2.2.2.2.1, show up2 hi 58 0 0 63 2 = hi (f + 1) 2 from hF.2.2.1.2.2.1 2 (by decide), Bool.and_assoc]
  refine Ct_of (ls := [_]) m_232.1.2.2.1 (Nat.le_of_ble_eq_true rfl) rfl ?_
  refine wq_aload_n q232_0 rfl ?_
  refine wq_iconst q232_1 ?_
  refine wq_putI q232_2 rfl rfl rfl rfl ?_
  rw [hpS]
  refine wq_aload_n q232_5 rfl ?_
  refine wq_aload_n q232_6 rfl ?_
  refine wq_getR q232_7 rfl rfl rfl ?_
  refine cV (As := [_]) q232_10 m_231 rfl rfl rfl ⟨by decide, rfl⟩ rfl (c_rcanTell (Or.inl rfl) ?_)
  refine wq_if_ne q232_13 (fun c13 => ?_) (fun c13 => ?_)
  · have c := i10 c13
    rw [← hb] at c
    have h1 := h1 c
    refine wq_aload_n q232_18 rfl ?_
    refine cV (As := []) q232_19 m_228 rfl rfl rfl ⟨by decide, rfl⟩ rfl (c_remember ha h38 (fun U' hU => ?_))
    have hra : RaF hi (upC (up2 (up2 hi 58 0 0) 58 38 (nI (min (a + 1) 40))) 74 U') := (ra_thrown 0).tr (ra_rem _ U')
    refine wq_aload_n q232_22 rfl ?_
    refine wq_aload_n q232_23 rfl ?_
    refine wq_getR q232_24 rfl rfl rfl ?_
    refine cV (As := [_]) q232_27 m_220 rfl rfl rfl ⟨by decide, rfl⟩ rfl (c_rtells (d := d) (hra.mv hF) (Or.inl rfl) hw hk (fun hi' t' hN hw' hk' h33' => ?_))
    refine rI q232_30 rfl ?_
    rw [chg_congr (hra.fl hF)] at hw' hk' ⊢
    exact h1 hi' t' ⟨RaP.of (ra_thrown 0) rfl rfl hU hN, fun _ => ⟨hw', hk', h33'⟩, fun z => absurd z (by decide)⟩
  · have c := i01 c13
    rw [← hb] at c
    refine wq_iconst q232_16 ?_
    refine rI q232_17 rfl ?_
    exact h0 c
theorem c_rmove {x y : Int32} (hF : RF hi f lw sz n ev wi) (hw : RW n row (hi 71)) (hk : KN n row (hi 71)) (ha : a ≤ 40) (h38 : hi 58 38 = nI a)
    (h0 : canB hi f row n 1 x y = false → Q (some (.int (-1))) (HP (up2 hi 58 0 0) hl f dr t))
    (h1 : canB hi f row n 1 x y = true → ∀ hi' t', RStep n a (chg hi f lw sz n ev (sOf row) wi row 1 x y) false hi hi' → Q (some (.int (chg hi f lw sz n ev (sOf row) wi row 1 x y wi))) (HP hi' hl f dr t')) :
    Ct G (0, 0) (d + 2) 235 [.ref 58, .int x, .int y] (HP hi hl f dr t) Q := by
  have hn := hF.2.1.1
  have hwi := hF.2.1.2.2.2.1
  have hb : canB hi f row n 1 x y = (inB x (up2 hi 58 0 0 58 26) && inB y (up2 hi 58 0 0 58 26) && !decide (x = y)) := by
    unfold canB
    rw [if_neg (by decide), if_pos rfl, hf3 hF, hF.2.1.2.2.2.2.1, show up2 hi 58 0 0 58 26 = nI n from hF.2.2.1.1]
    rfl
  have ech : chg hi f lw sz n ev (sOf row) wi row 1 x y = swR row n x y := by unfold chg; rw [if_neg (by decide), if_pos rfl]
  refine Ct_of (ls := [_, _, _]) m_235.1.2.2.1 (Nat.le_of_ble_eq_true rfl) rfl ?_
  refine wq_aload_n q235_0 rfl ?_
  refine wq_iconst q235_1 ?_
  refine wq_putI q235_2 rfl rfl rfl rfl ?_
  rw [hpS]
  refine wq_aload_n q235_5 rfl ?_
  refine wq_iload_n q235_6 rfl ?_
  refine wq_iload_n q235_7 rfl ?_
  refine cV (As := [_, _]) q235_8 m_233 rfl rfl rfl ⟨by decide, rfl⟩ rfl (c_rcanMove ?_)
  refine wq_if_ne q235_11 (fun c11 => ?_) (fun c11 => ?_)
  · have c := i10 c11
    have h1 := h1 (hb.trans c)
    rw [ech] at h1
    rw [show up2 hi 58 0 0 58 26 = nI n from hF.2.2.1.1] at c
    simp only [Bool.and_eq_true] at c
    obtain ⟨p, hp, rfl⟩ := inB_N (m := n) (by omega) c.1.1
    obtain ⟨q, hq, rfl⟩ := inB_N (m := n) (by omega) c.1.2
    refine wq_aload_n q235_16 rfl ?_
    refine cV (As := []) q235_17 m_228 rfl rfl rfl ⟨by decide, rfl⟩ rfl (c_remember ha h38 (fun U' hU => ?_))
    have hra : RaF hi (upC (up2 (up2 hi 58 0 0) 58 38 (nI (min (a + 1) 40))) 74 U') := (ra_thrown 0).tr (ra_rem _ U')
    refine wq_aload_n q235_20 rfl ?_
    refine wq_getR q235_21 rfl rfl rfl ?_
    refine wq_iload_n q235_24 rfl ?_
    refine wq_iload_n q235_25 rfl ?_
    refine cS' (As := [_, _, _]) q235_26 m_234 rfl rfl rfl (c_changes (Or.inl rfl) (by omega) (by omega) ?_)
    have hw2 : RW n (swR row n (nI p) (nI q)) (upC (upC (up2 (up2 hi 58 0 0) 58 38 (nI (min (a + 1) 40))) 74 U') 71 (chW (hi 71) p q) 71) := by rw [upC_s]; exact hw.sw hn hp hq
    refine wq_aload_n q235_29 rfl ?_
    refine wq_aload_n q235_30 rfl ?_
    refine wq_getR q235_31 rfl rfl rfl ?_
    refine cV (As := [_]) q235_34 m_213 rfl rfl rfl ⟨by decide, rfl⟩ rfl (c_rteller (Or.inl rfl) hn hF.2.2.1.1 ((hF.2.2.1.2.2.1 0 (by decide)).trans hF.2.1.2.2.2.2.2.2) hw2 hwi ?_)
    refine rI q235_37 rfl ?_
    refine h1 _ t ⟨RaP.of (ra_thrown 0) rfl rfl hU (RNw.rf.up (by decide) _), fun _ => ⟨hw2, ?_, fun j hj => ?_⟩, fun z => absurd z (by decide)⟩
    · rw [upC_s]
      exact hk.sw hn
    · rw [upC_s, chW_o (by omega) (by omega)]
      rfl
  · have c := i01 c11
    refine wq_iconst q235_14 ?_
    refine rI q235_15 rfl ?_
    exact h0 (hb.trans c)
theorem c_rcode (hF : RF hi f lw sz n ev wi) (hw : RW n row (hi 71)) (hk : KN n row (hi 71)) (ha : a ≤ 40) (h38 : hi 58 38 = nI a)
    (h0 : canB hi f row n 3 (-1) (-1) = false → Q (some (.int (-1))) (HP (up2 hi 58 0 0) hl f dr t))
    (h1 : canB hi f row n 3 (-1) (-1) = true → ∀ hi' t', RStep n a (chg hi f lw sz n ev (sOf row) wi row 3 (-1) (-1)) false hi hi' → Q (some (.int (nI (riR (fun i => row (7 + i)) (n - 1) 1 0)))) (HP hi' hl f dr t')) :
    Ct G (0, 0) (d + 2) 240 [.ref 58] (HP hi hl f dr t) Q := by
  have hn := hF.2.1.1
  have hn1 := hF.2.1.2.1
  obtain ⟨p, ep⟩ : ∃ p, p = riR (fun i => row (7 + i)) (n - 1) 1 0 := ⟨_, rfl⟩
  have hp : p < n := by
    have := riR_lt (b := fun i => row (7 + i)) (n - 1) 1 0 (Or.inr rfl) (by omega)
    omega
  have hb : canB hi f row n 3 (-1) (-1) = decide (2 ≤ row (7 + riR (fun i => row (7 + i)) (n - 1) 1 0)) := by
    unfold canB
    rw [if_neg (by decide), if_neg (by decide), if_neg (by decide), if_pos rfl, hf3 hF]
    rfl
  have ech : chg hi f lw sz n ev (sOf row) wi row 3 (-1) (-1) = va_up (va_up row (7 + p) (row (7 + p) - 2)) 31 0 := by
    unfold chg
    rw [if_neg (by decide), if_neg (by decide), if_neg (by decide), if_pos rfl, ← ep]
  refine Ct_of (ls := [_]) m_240.1.2.2.1 (Nat.le_of_ble_eq_true rfl) rfl ?_
  refine wq_aload_n q240_0 rfl ?_
  refine wq_iconst q240_1 ?_
  refine wq_putI q240_2 rfl rfl rfl rfl ?_
  rw [hpS]
  refine wq_aload_n q240_5 rfl ?_
  refine wq_aload_n q240_6 rfl ?_
  refine wq_getR q240_7 rfl rfl rfl ?_
  refine cV (As := [_]) q240_10 m_238 rfl rfl rfl ⟨by decide, rfl⟩ rfl (c_rcanCode (Or.inl rfl) hn hn1 hF.2.2.1.1 hw ?_)
  refine wq_if_ne q240_13 (fun c13 => ?_) (fun c13 => ?_)
  · have c := i10 c13
    have h1 := h1 (hb.trans c)
    rw [ech, ← ep] at h1
    refine wq_aload_n q240_18 rfl ?_
    refine cV (As := []) q240_19 m_228 rfl rfl rfl ⟨by decide, rfl⟩ rfl (c_remember ha h38 (fun U' hU => ?_))
    refine wq_aload_n q240_22 rfl ?_
    refine wq_aload_n q240_23 rfl ?_
    refine wq_getR q240_24 rfl rfl rfl ?_
    refine cV (As := [_]) q240_27 m_239 rfl rfl rfl ⟨by decide, rfl⟩ rfl (c_renews (Or.inl rfl) hn hn1 hF.2.2.1.1 hw ep hp ?_)
    refine rI q240_30 rfl ?_
    refine h1 _ t ⟨RaP.of (ra_thrown 0) rfl rfl hU (RNw.rf.up (by decide) _), fun _ => ⟨?_, ?_, fun j hj => ?_⟩, fun z => absurd z (by decide)⟩
    · rw [upC_s]
      exact hw.renew hn hp _
    · rw [upC_s]
      exact hk.renew hn hp _
    · rw [upC_s, vu_o _ _ (by omega), vu_o _ _ (by omega)]
      rfl
  · have c := i01 c13
    refine wq_iconst q240_16 ?_
    refine rI q240_17 rfl ?_
    exact h0 (hb.trans c)
theorem RW.mirr {n : Nat} {row w : Nat → Int32} (h : RW n row w) (hn : n ≤ 7) {p : Nat} (hp : p < n) (z : Int32) : RW n (va_up row (14 + p) z) (va_up w (4 * p + 3) z) := by
  obtain ⟨g1, g2, g3, g4, g5, g6, g7, g8, g9⟩ := h
  have e1 : ∀ j, j ≠ 14 + p → va_up row (14 + p) z j = row j := fun j hj => vu_o _ _ hj
  have e2 : ∀ j, j ≠ 4 * p + 3 → va_up w (4 * p + 3) z j = w j := fun j hj => vu_o _ _ hj
  refine ⟨fun c hc => ?_, fun q hq => ?_, fun q hq => ?_, fun q hq => ?_, ?_, ?_, ?_, ?_, ?_⟩
  · obtain ⟨q, hq, k1, k2⟩ := g1 c hc
    exact ⟨q, hq, by rw [e1 c (by omega)]; exact k1, by rw [e2 _ (by omega)]; exact k2⟩
  · obtain ⟨c, hc, k1, k2⟩ := g2 q hq
    exact ⟨c, hc, by rw [e2 _ (by omega)]; exact k1, by rw [e1 c (by omega)]; exact k2⟩
  · rw [e2 _ (by omega), e1 _ (by omega)]; exact g3 q hq
  · by_cases e : q = p
    · rw [e, vu_s, vu_s]
    · rw [e2 _ (by omega), e1 _ (by omega)]; exact g4 q hq
  · rw [e2 _ (by omega), e1 _ (by omega)]; exact g5
  · rw [e2 _ (by omega), e1 _ (by omega)]; exact g6
  · rw [e2 _ (by omega), e1 _ (by omega)]; exact g7
  · rw [e2 _ (by omega), e1 _ (by omega)]; exact g8
  · rw [e2 _ (by omega), e1 _ (by omega)]; exact g9
theorem c_rmirror {x b : Int32} (hF : RF hi f lw sz n ev wi) (hw : RW n row (hi 71)) (hk : KN n row (hi 71)) (ha : a ≤ 40) (h38 : hi 58 38 = nI a)
    (h0 : ¬ (inB x (nI n) = true ∧ 0 ≤ b ∧ b < 1 <<< (nI ev &&& 31) ∧ ∀ j, x = nI j → ¬ row (14 + j) = b) → Q (some (.int 0)) (HP (up2 hi 58 0 0) hl f dr t))
    (h1 : ∀ j, x = nI j → j < n → 0 ≤ b → b < 1 <<< (nI ev &&& 31) → ¬ row (14 + j) = b → ∀ hi' t', RStep n a (va_up row (14 + j) b) false hi hi' → Q (some (.int 1)) (HP hi' hl f dr t')) :
    Ct G (0, 0) (d + 2) 236 [.ref 58, .int x, .int b] (HP hi hl f dr t) Q := by
  have hn := hF.2.1.1
  have e26 : up2 hi 58 0 0 58 26 = nI n := hF.2.2.1.1
  have e27 : hI (HP (up2 hi 58 0 0) hl f dr t) 58 27 = nI ev := hF.2.2.1.2.1
  refine Ct_of (ls := [_, _, _]) m_236.1.2.2.1 (Nat.le_of_ble_eq_true rfl) rfl ?_
  refine wq_aload_n q236_0 rfl ?_
  refine wq_iconst q236_1 ?_
  refine wq_putI q236_2 rfl rfl rfl rfl ?_
  rw [hpS]
  refine wq_aload_n q236_5 rfl ?_
  refine wq_iload_n q236_6 rfl ?_
  refine cV (As := [_]) q236_7 m_209 rfl rfl rfl ⟨by decide, rfl⟩ rfl (c_risPrisoner ?_)
  refine wq_if_eq q236_10 (fun c10 => ?_) (fun c10 => ?_)
  · have c := i01 c10
    rw [e26] at c
    refine wq_iconst q236_41 ?_
    refine rI q236_42 rfl ?_
    exact h0 (fun z => by rw [z.1] at c; cases c)
  · have c := i10 c10
    rw [e26] at c
    obtain ⟨p, hp, rfl⟩ := inB_N (m := n) (by omega) c
    refine wq_iload_n q236_13 rfl ?_
    refine wq_if_lt q236_14 (fun c14 => ?_) (fun c14 => ?_)
    · refine wq_iconst q236_41 ?_
      refine rI q236_42 rfl ?_
      exact h0 (fun z => absurd z.2.1 (Int32.not_le.mpr c14))
    · refine wq_iload_n q236_17 rfl ?_
      refine wq_iconst q236_18 ?_
      refine wq_aload_n q236_19 rfl ?_
      refine wq_getI q236_20 rfl rfl ?_
      refine wq_ishl q236_23 ?_
      refine wq_icmp_ge q236_24 (fun c24 => ?_) (fun c24 => ?_)
      · rw [e27] at c24
        refine wq_iconst q236_41 ?_
        refine rI q236_42 rfl ?_
        exact h0 (fun z => absurd z.2.2.1 (Int32.not_lt.mpr c24))
      · rw [e27] at c24
        have e3 : hI (HP (up2 hi 58 0 0) hl f dr t) 71 (4 * p + 3) = row (14 + p) := hw.2.2.2.1 p hp
        refine wq_aload_n q236_27 rfl ?_
        refine wq_getR q236_28 rfl rfl rfl ?_
        refine wq_iconst q236_31 ?_
        refine wq_iload_n q236_32 rfl ?_
        refine wq_imul q236_33 ?_
        refine wq_iconst q236_34 ?_
        refine wq_iadd q236_35 ?_
        refine aI q236_36 rfl (ix3 p) (by show 4 * p + 3 < 214; omega) (by first | decide | omega) ?_
        rw [e3]
        refine wq_iload_n q236_37 rfl ?_
        refine wq_icmp_ne q236_38 (fun c38 => ?_) (fun c38 => ?_)
        · refine wq_aload_n q236_43 rfl ?_
          refine cV (As := []) q236_44 m_228 rfl rfl rfl ⟨by decide, rfl⟩ rfl (c_remember ha h38 (fun U' hU => ?_))
          refine wq_aload_n q236_47 rfl ?_
          refine wq_getR q236_48 rfl rfl rfl ?_
          refine wq_iconst q236_51 ?_
          refine wq_iload_n q236_52 rfl ?_
          refine wq_imul q236_53 ?_
          refine wq_iconst q236_54 ?_
          refine wq_iadd q236_55 ?_
          refine wq_iload_n q236_56 rfl ?_
          refine sI q236_57 rfl (ix3 p) (by show 4 * p + 3 < 214; omega) (by first | decide | omega) rfl ?_
          rw [hpS, up2_C]
          refine wq_iconst q236_58 ?_
          refine rI q236_59 rfl ?_
          refine h1 p rfl hp (Int32.not_lt.mp c14) (Int32.not_le.mp c24) c38 _ t ⟨RaP.of (ra_thrown 0) rfl rfl hU (RNw.rf.up (by decide) _), fun _ => ⟨?_, fun q hq => ?_, fun j hj => ?_⟩, fun z => absurd z (by decide)⟩
          · rw [upC_s]
            exact hw.mirr hn hp _
          · rw [upC_s, vu_o _ _ (by omega), vu_o _ _ (by omega)]
            exact hk q hq
          · rw [upC_s, vu_o _ _ (by omega)]
            rfl
        · refine wq_iconst q236_41 ?_
          refine rI q236_42 rfl ?_
          exact h0 (fun z => z.2.2.2 p rfl c38)
/-- days of the reference, one after the other -/
def RDy (n : Nat) : Nat → (Nat → Int32) → (Nat → Nat → Int32) → (Nat → Nat → Int32) → Prop
  | 0, _, hi, hi' => hi' = hi
  | k + 1, row, hi, hi' => ∃ hi1 a, hi 58 38 = nI a ∧ a ≤ 40 ∧ RStep n a row true hi hi1 ∧ RDy n k (edR row) hi1 hi'
theorem iiB_60 {x : Int32} : iiB x.toInt64 1 60 = true ↔ 1 ≤ x ∧ x ≤ 60 := iiB_in 1 60 rfl rfl
def spB' (c dy x : Int32) : Bool := decide (0 < c) && decide (1 ≤ x) && decide (x ≤ 60) && decide (dy + x ≤ 9999)
theorem c_mayPass {x : Int32} (hQ : Q (some (.int (if spB' (hi 58 26) (hi 71 32) x = true then 1 else 0))) (HP hi hl f dr t)) : Ct G (0, 0) (d + 1) 241 [.ref 58, .int x] (HP hi hl f dr t) Q := by
  unfold spB' at hQ
  refine Ct_of (ls := [_, _]) m_241.1.2.2.1 (Nat.le_of_ble_eq_true rfl) rfl ?_
  refine wq_aload_n q241_0 rfl ?_
  refine wq_getI q241_1 rfl rfl ?_
  refine wq_if_le q241_4 (fun c4 => ?_) (fun c4 => ?_)
  · rw [hIH] at c4
    rw [decide_eq_false (Int32.not_lt.mpr c4)] at hQ
    refine wq_iconst q241_38 ?_
    refine rI q241_39 rfl ?_
    exact hQ
  · rw [hIH] at c4
    rw [decide_eq_true (Int32.not_le.mp c4)] at hQ
    refine wq_iload_n q241_7 rfl ?_
    refine wq_i2l q241_8 ?_
    refine wq_lconst q241_9 ?_
    refine wq_ldc2_w q241_10 ?_
    refine cS' (As := [_, _, _]) q241_13 m_170 rfl rfl rfl (c_isIn ?_)
    refine wq_if_eq q241_16 (fun c16 => ?_) (fun c16 => ?_)
    · have c := i01 c16
      have hno : ¬ (1 ≤ x ∧ x ≤ 60) := fun z => by rw [iiB_60.mpr z] at c; cases c
      have e : (true && decide (1 ≤ x) && decide (x ≤ 60)) = false := by
        by_cases h1 : 1 ≤ x
        · rw [decide_eq_true h1, decide_eq_false (fun z => hno ⟨h1, z⟩)]; rfl
        · rw [decide_eq_false h1]; rfl
      rw [e] at hQ
      refine wq_iconst q241_38 ?_
      refine rI q241_39 rfl ?_
      exact hQ
    · have c := iiB_60.mp (i10 c16)
      rw [decide_eq_true c.1, decide_eq_true c.2] at hQ
      refine wq_aload_n q241_19 rfl ?_
      refine wq_getR q241_20 rfl rfl rfl ?_
      refine wq_bipush q241_23 ?_
      refine aI q241_25 rfl ((show (32 : Int32) = nI 32 from rfl)) (by decide) (by first | decide | omega) ?_
      refine wq_iload_n q241_26 rfl ?_
      refine wq_iadd q241_27 ?_
      refine wq_sipush q241_28 ?_
      refine wq_icmp_gt q241_31 (fun c31 => ?_) (fun c31 => ?_)
      · rw [hIH] at c31
        rw [decide_eq_false (Int32.not_le.mpr c31)] at hQ
        refine wq_iconst q241_38 ?_
        refine rI q241_39 rfl ?_
        exact hQ
      · rw [hIH] at c31
        rw [decide_eq_true (Int32.not_lt.mp c31)] at hQ
        refine wq_iconst q241_34 ?_
        refine wq_goto q241_35 ?_
        refine rI q241_39 rfl ?_
        exact hQ
theorem c_rdays_loop {N : Nat} (hN60 : N ≤ 60) : ∀ (m k : Nat) (hi : Nat → Nat → Int32) (row : Nat → Int32) (a lg : Nat), k + m = N → RF hi f lw sz n ev wi → RW n row (hi 71) → KN n row (hi 71) → a ≤ 40 → hi 58 38 = nI a → lg ≤ 60 → hi 71 33 = nI lg → (∀ hi', RDy n m row hi hi' → Q (some (.int (hi' 71 32))) (HP hi' hl f dr t)) →
    wq G (0, 0) (d + 2) 242 17 [some (.ref 58), some (.int (nI N)), some (.int (nI k))] [] (0, 0) (HP hi hl f dr t) Q := by
  intro m
  induction m with
  | zero =>
    intro k hi row a lg hm hF hw hk ha h38 hlg h33 hQ
    obtain rfl : k = N := by omega
    refine wq_iload_n q242_17 rfl ?_
    refine wq_iload_n q242_18 rfl ?_
    refine wq_icmp_ge q242_19 (fun c19 => ?_) (fun c19 => ?_)
    · refine wq_aload_n q242_40 rfl ?_
      refine wq_getR q242_41 rfl rfl rfl ?_
      refine wq_bipush q242_44 ?_
      refine aI q242_46 rfl ((show (32 : Int32) = nI 32 from rfl)) (by decide) (by first | decide | omega) ?_
      refine rI q242_47 rfl ?_
      exact hQ hi rfl
    · exact absurd (nI_le (Nat.le_refl _) (by omega)) c19
  | succ m ih =>
    intro k hi row a lg hm hF hw hk ha h38 hlg h33 hQ
    have hn := hF.2.1.1
    refine wq_iload_n q242_17 rfl ?_
    refine wq_iload_n q242_18 rfl ?_
    refine wq_icmp_ge q242_19 (fun c19 => ?_) (fun c19 => ?_)
    · rw [nI_leI (by omega) (by omega)] at c19
      omega
    · refine wq_aload_n q242_22 rfl ?_
      refine cV (As := []) q242_23 m_228 rfl rfl rfl ⟨by decide, rfl⟩ rfl (c_remember ha h38 (fun U' hU => ?_))
      refine wq_aload_n q242_26 rfl ?_
      refine wq_aload_n q242_27 rfl ?_
      refine wq_getR q242_28 rfl rfl rfl ?_
      refine cV (As := [_]) q242_31 m_221 rfl rfl rfl ⟨by decide, rfl⟩ rfl (c_darkens (Or.inl rfl) hn hF.2.2.1.1 hlg h33 (fun W' hd => ?_))
      refine wq_iinc (ls' := [_, _, _]) q242_34 rfl rfl ?_
      refine wq_goto q242_37 ?_
      rw [nI_1]
      have hd' : DkP n lg (hi 71) W' := hd
      have hst : RStep n a row true hi (upC (upC (up2 hi 58 38 (nI (min (a + 1) 40))) 74 U') 71 W') :=
        ⟨RaP.of RaF.rf rfl rfl hU (RNw.rf.up (by decide) _), fun z => absurd z (by decide), fun _ => ⟨hi 71, lg, hw, hk, fun _ _ => rfl, h33, hlg, by rw [upC_s]; exact hd'⟩⟩
      have hd2 := hw.dark hn hd'
      exact ih (k + 1) _ (edR row) (min (a + 1) 40) (min (lg + 1) 60) (by omega) (hst.1.1.mv hF) (by rw [upC_s]; exact hd2.1) (by rw [upC_s]; exact hd2.2) (by omega) rfl (by omega) (by rw [upC_s]; exact hd'.2.2.2.2.2.2.1) (fun hi' hh => hQ hi' ⟨_, a, h38, ha, hst, hh⟩)
theorem c_rdays {x : Int32} (hF : RF hi f lw sz n ev wi) (hw : RW n row (hi 71)) (hk : KN n row (hi 71)) (ha : a ≤ 40) (h38 : hi 58 38 = nI a) (hlg : lg ≤ 60) (h33 : hi 71 33 = nI lg)
    (h0 : spB' (nI n) (row 32) x = false → Q (some (.int (-1))) (HP (up2 hi 58 0 0) hl f dr t))
    (h1 : ∀ N, x = nI N → N ≤ 60 → spB' (nI n) (row 32) x = true → ∀ hi', RDy n N row (up2 hi 58 0 0) hi' → Q (some (.int (hi' 71 32))) (HP hi' hl f dr t)) :
    Ct G (0, 0) (d + 2) 242 [.ref 58, .int x] (HP hi hl f dr t) Q := by
  have e26 : up2 hi 58 0 0 58 26 = nI n := hF.2.2.1.1
  have e32 : up2 hi 58 0 0 71 32 = row 32 := hw.2.2.2.2.2.2.2.2
  refine Ct_of (ls := [_, _, _]) m_242.1.2.2.1 (Nat.le_of_ble_eq_true rfl) rfl ?_
  refine wq_aload_n q242_0 rfl ?_
  refine wq_iconst q242_1 ?_
  refine wq_putI q242_2 rfl rfl rfl rfl ?_
  rw [hpS]
  refine wq_aload_n q242_5 rfl ?_
  refine wq_iload_n q242_6 rfl ?_
  refine cV (As := [_]) q242_7 m_241 rfl rfl rfl ⟨by decide, rfl⟩ rfl (c_mayPass ?_)
  refine wq_if_ne q242_10 (fun c10 => ?_) (fun c10 => ?_)
  · have c := i10 c10
    rw [e26, e32] at c
    have c2 := c
    unfold spB' at c2
    simp only [Bool.and_eq_true, decide_eq_true_eq] at c2
    obtain ⟨N, hN⟩ : ∃ N, N ≤ 60 ∧ x = nI N := nI_of2 (M := 60) (n := 60) rfl (fun z => by
      have h1 := c2.1.1.2
      rw [Int32.le_iff_toInt_le] at h1
      rw [Int32.lt_iff_toInt_lt] at z
      rw [show (1 : Int32).toInt = 1 from rfl] at h1
      rw [show (0 : Int32).toInt = 0 from rfl] at z
      omega) c2.1.2
    obtain ⟨hN60, rfl⟩ := hN
    refine wq_iconst q242_15 ?_
    refine wq_istore_n (ls' := [_, _, _]) q242_16 rfl ?_
    exact c_rdays_loop hN60 N 0 _ row a lg (by omega) ((ra_thrown 0).mv hF) hw hk ha h38 hlg h33 (fun hi' hh => h1 N rfl hN60 c hi' hh)
  · have c := i01 c10
    rw [e26, e32] at c
    refine wq_iconst q242_13 ?_
    refine rI q242_14 rfl ?_
    exact h0 c
end REFDO
