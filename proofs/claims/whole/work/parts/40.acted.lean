/-! THE CLASS: acts -/
/-- two heaps agree on a fort and a law -/
def FLs (f : Nat) (lw : Option Nat) (hi hi' : Nat → Nat → Int32) : Prop := hi' f = hi f ∧ hi' (f + 1) = hi (f + 1) ∧ hi' (f + 2) = hi (f + 2) ∧ hi' (f + 3) = hi (f + 3) ∧ ∀ a, lw = some a → hi' a = hi a ∧ hi' (a + 1) = hi (a + 1)
theorem taR_congr {hi hi' : Nat → Nat → Int32} {f : Nat} {lw : Option Nat} (h : FLs f lw hi hi') {sz n : Nat} {s : Nat → Nat} {wi te : Nat} {cost : Int32} {hold : Bool} : ∀ (m v : Nat) (x : taX), taR hi' f lw sz n s wi te cost hold m v x = taR hi f lw sz n s wi te cost hold m v x := by
  obtain ⟨h0, h1, h2, h3, h4⟩ := h
  have e : ∀ v x, taS hi' f lw sz n s wi te cost hold v x = taS hi f lw sz n s wi te cost hold v x := by
    intro v x
    have hsp : ∀ row, spV hi' f lw sz v row s wi = spV hi f lw sz v row s wi := fun row => spV_congr h1 h2 h3 (fun a ha => (h4 a ha).2)
    have hl : lvO hi' f te = lvO hi f te := by unfold lvO; rw [h0, h2]
    have ht : toB hi' f te hold v x.2.1 = toB hi f te hold v x.2.1 := by unfold toB; rw [hl, h1]
    unfold taS
    rw [ht, hsp, h3]
  intro m
  induction m with
  | zero => intro v x; rfl
  | succ m ih =>
    intro v x
    rw [taR, taR, e]
    exact ih _ _
theorem chg_congr {hi hi' : Nat → Nat → Int32} {f : Nat} {lw : Option Nat} (h : FLs f lw hi hi') {sz n ev : Nat} {s : Nat → Nat} {wi : Nat} {row : Nat → Int32} {kd fi se : Int32} : chg hi' f lw sz n ev s wi row kd fi se = chg hi f lw sz n ev s wi row kd fi se := by
  unfold chg tellR
  rw [h.2.1, taR_congr h]
/-- the numbers of the acts that are kept -/
def AcK (hi : Nat → Nat → Int32) (nx kp : Nat) : Prop := hi 48 1 = nI nx ∧ nx < 40 ∧ hi 48 2 = nI kp ∧ kp ≤ 40
/-- all that the class needs to know for an act -/
def OwK (hi : Nat → Nat → Int32) (f : Nat) (lw : Option Nat) (sz n ev wi nx kp dy : Nat) (s : Nat → Nat) : Prop := Fok f ∧ Lawk hi lw sz ∧ LwN hi lw ∧ FoK hi f n ev wi ∧ SiK (hi 39) n s ∧ AcK hi nx kp ∧ hi 39 32 = nI dy ∧ dy ≤ 9999
/-- behind an act: the scene, the acts kept, the diary -/
def actP (hi : Nat → Nat → Int32) (row' : Nat → Int32) (log : Bool) (nx kp dy : Nat) (hi' : Nat → Nat → Int32) : Prop :=
  hi' 39 = row' ∧ hi' 49 = va_cpy (hi 39) (hi 49) 0 (nx * 33) 33 ∧ hi' 48 = va_up (va_up (hi 48) 1 (nI ((nx + 1) % 40))) 2 (nI (min (kp + 1) 40)) ∧ hi' 45 = (if log = true then dpA hi 45 39 dy else hi 45) ∧ Same (45 :: 48 :: 49 :: 52 :: 39 :: scr0) hi hi'
section ACTED
variable {G : ph_G} {d a r n f dr t sz : Nat} {hi : Nat → Nat → Int32} {hl : Nat → Nat → Int64} {Q : Option Value → ph_H → Prop} {lw : Option Nat}
theorem FLs_of {S : List Nat} {hi' : Nat → Nat → Int32} (hf : Fok f) (hw : Lawk hi lw sz) (h : Same S hi hi') (hS : ∀ b, b ∈ S → b ∈ (45 :: 48 :: 49 :: 52 :: 39 :: 41 :: 43 :: scr0)) : FLs f lw hi hi' := by
  have k1 : ∀ b, (b = f ∨ b = f + 1 ∨ b = f + 2 ∨ b = f + 3) → b ∉ (45 :: 48 :: 49 :: 52 :: 39 :: 41 :: 43 :: scr0) := by
    rcases hf with rfl | rfl <;> rintro b (rfl | rfl | rfl | rfl) <;> decide
  have k2 : ∀ la b, Lok la → (b = la ∨ b = la + 1) → b ∉ (45 :: 48 :: 49 :: 52 :: 39 :: 41 :: 43 :: scr0) := by
    rintro la b hk hb
    rcases hk with rfl | rfl | rfl | rfl | rfl <;> rcases hb with rfl | rfl <;> decide
  exact ⟨h _ (fun z => k1 _ (Or.inl rfl) (hS _ z)), h _ (fun z => k1 _ (Or.inr (Or.inl rfl)) (hS _ z)), h _ (fun z => k1 _ (Or.inr (Or.inr (Or.inl rfl))) (hS _ z)), h _ (fun z => k1 _ (Or.inr (Or.inr (Or.inr rfl))) (hS _ z)), fun la ha => ⟨h _ (fun z => k2 la _ (hw la ha).1 (Or.inl rfl) (hS _ z)), h _ (fun z => k2 la _ (hw la ha).1 (Or.inr rfl) (hS _ z))⟩⟩
theorem keA_same (nx kp : Nat) : Same (48 :: 49 :: []) hi (keA hi 39 nx kp) := by
  intro b hb
  have h1 : b ≠ 48 := fun z => hb (by rw [z]; decide)
  have h2 : b ≠ 49 := fun z => hb (by rw [z]; decide)
  unfold keA
  rw [up2_o _ _ _ h1, up2_o _ _ _ h1, upC_o _ _ h2]
theorem LwN.moved {hi' : Nat → Nat → Int32} (h : LwN hi lw) (e : hi' 0 = hi 0) : LwN hi' lw := by
  unfold LwN at h ⊢
  rw [e]
  exact h
theorem Lawk.moved {hi' : Nat → Nat → Int32} (h : Lawk hi lw sz) (e : FLs f lw hi hi') : Lawk hi' lw sz := fun a ha => by
  obtain ⟨k1, k2, k3⟩ := h a ha
  exact ⟨k1, by rw [(e.2.2.2.2 a ha).1]; exact k2, k3⟩
theorem FoK.moved {hi' : Nat → Nat → Int32} {ev wi : Nat} (h : FoK hi f n ev wi) (e : FLs f lw hi hi') : FoK hi' f n ev wi := by
  obtain ⟨h1, h2, h3, h4, h5, h6, h7⟩ := h
  exact ⟨h1, h2, h3, h4, by rw [e.1]; exact h5, by rw [e.1]; exact h6, by rw [e.2.1]; exact h7⟩
theorem c_acted {ev wi nx kp dy : Nat} {s : Nat → Nat} {kd fi se : Int32} (hk : OwK hi f lw sz n ev wi nx kp dy s)
    (h0 : canB hi f (hi 39) n kd fi se = false → Q (some (.int 0)) (HP hi hl f dr t))
    (h1 : canB hi f (hi 39) n kd fi se = true → ∀ hi', actP hi (chg hi f lw sz n ev s wi (hi 39) kd fi se) (decide (kd = 4)) nx kp dy hi' → Q (some (.int 1)) (HP hi' hl f dr t)) :
    Ct G (0, 0) (d + 7) 120 [.ref 0, .int kd, .int fi, .int se] (HP hi hl f dr t) Q := by
  obtain ⟨hf, hw, hlw, hfk, hsit, ⟨ha1, ha2, ha3, ha4⟩, hd1, hd2⟩ := hk
  have hs : Sok 38 39 := Or.inl ⟨rfl, rfl⟩
  refine Ct_of (ls := [_, _, _, _]) m_120.1.2.2.1 (Nat.le_of_ble_eq_true rfl) rfl ?_
  refine wq_aload_n q120_0 rfl ?_
  refine wq_aload_n q120_1 rfl ?_
  refine wq_getR q120_2 rfl rfl rfl ?_
  refine wq_iload_n q120_5 rfl ?_
  refine wq_iload_n q120_6 rfl ?_
  refine wq_iload_n q120_7 rfl ?_
  refine cV (As := [_, _, _, _]) q120_8 m_121 rfl rfl rfl ⟨by decide, rfl⟩ rfl (c_canBe hf hs hfk.1 hfk.2.2.2.2.1 ?_)
  refine wq_if_ne q120_11 (fun c11 => ?_) (fun c11 => ?_)
  · have hb := i10 c11
    have h1 := h1 hb
    refine wq_aload_n q120_16 rfl ?_
    refine wq_getR q120_17 rfl rfl rfl ?_
    refine wq_aload_n q120_20 rfl ?_
    refine wq_getR q120_21 rfl rfl rfl ?_
    refine cV (As := [_]) q120_24 m_2 rfl rfl rfl ⟨by decide, rfl⟩ rfl (c_keep (a := 38) (r := 39) (hs.scn _ _ _ _ _) ha1 ha2 ha3 ha4 ?_)
    refine wq_iload_n q120_27 rfl ?_
    refine wq_iconst q120_28 ?_
    refine wq_icmp_ne q120_29 (fun c29 => ?_) (fun c29 => ?_)
    · have ek := keA_same (hi := hi) nx kp
      have hfl : FLs f lw hi (keA hi 39 nx kp) := FLs_of hf hw ek (by decide)
      have e39 : keA hi 39 nx kp 39 = hi 39 := ek 39 (by decide)
      refine wq_aload_n q120_43 rfl ?_
      refine wq_aload_n q120_44 rfl ?_
      refine wq_getR q120_45 rfl rfl rfl ?_
      refine wq_iload_n q120_48 rfl ?_
      refine wq_iload_n q120_49 rfl ?_
      refine wq_iload_n q120_50 rfl ?_
      refine cV (As := [_, _, _, _]) q120_51 m_122 rfl rfl rfl ⟨by decide, rfl⟩ rfl (c_change (s := s) hf hs (hw.moved hfl) (hlw.moved (ek 0 (by decide))) (hfk.moved hfl) (by rw [e39]; exact hsit) (fun hi' g1 g2 => ?_))
      refine wq_iconst q120_54 ?_
      refine rI q120_55 rfl ?_
      refine h1 hi' ⟨?_, ?_, ?_, ?_, ?_⟩
      · rw [g2, e39, chg_congr hfl]
      · rw [g1 49 (by decide)]
        show up2 (up2 (upC hi 49 _) 48 1 _) 48 2 _ 49 = _
        rw [up2_o _ _ _ (by decide), up2_o _ _ _ (by decide), upC_s]
      · rw [g1 48 (by decide)]
        rfl
      · rw [g1 45 (by decide), decide_eq_false c29]
        exact ek 45 (by decide)
      · intro b hb
        rw [g1 b (fun z => hb ((show ∀ x ∈ (52 :: 39 :: scr0), x ∈ (45 :: 48 :: 49 :: 52 :: 39 :: scr0) by decide) b z)), ek b (fun z => hb ((show ∀ x ∈ (48 :: 49 :: []), x ∈ (45 :: 48 :: 49 :: 52 :: 39 :: scr0) by decide) b z))]
    · have ek := keA_same (hi := hi) nx kp
      subst c29
      have e39 : keA hi 39 nx kp 39 = hi 39 := ek 39 (by decide)
      have e45 : keA hi 39 nx kp 45 = hi 45 := ek 45 (by decide)
      have edp : dpA (keA hi 39 nx kp) 45 39 dy = dpA hi 45 39 dy := by unfold dpA; rw [e39, e45]
      refine wq_aload_n q120_32 rfl ?_
      refine wq_getR q120_33 rfl rfl rfl ?_
      refine wq_aload_n q120_36 rfl ?_
      refine wq_getR q120_37 rfl rfl rfl ?_
      refine cV (As := [_]) q120_40 m_9 rfl rfl rfl ⟨by decide, rfl⟩ rfl (c_dput (dy := dy) (a := 38) (r := 39) (hs.scn _ _ _ _ _) (by decide) (by rw [e39]; exact hd1) hd2 ?_)
      rw [edp]
      have ek2 : Same (45 :: 48 :: 49 :: []) hi (upC (keA hi 39 nx kp) 45 (dpA hi 45 39 dy)) := by
        intro b hb
        rw [upC_o _ _ (fun z => hb (by rw [z]; decide))]
        exact ek b (fun z => hb (List.mem_cons_of_mem _ z))
      have hfl : FLs f lw hi (upC (keA hi 39 nx kp) 45 (dpA hi 45 39 dy)) := FLs_of hf hw ek2 (by decide)
      have e39' : upC (keA hi 39 nx kp) 45 (dpA hi 45 39 dy) 39 = hi 39 := ek2 39 (by decide)
      refine wq_aload_n q120_43 rfl ?_
      refine wq_aload_n q120_44 rfl ?_
      refine wq_getR q120_45 rfl rfl rfl ?_
      refine wq_iload_n q120_48 rfl ?_
      refine wq_iload_n q120_49 rfl ?_
      refine wq_iload_n q120_50 rfl ?_
      refine cV (As := [_, _, _, _]) q120_51 m_122 rfl rfl rfl ⟨by decide, rfl⟩ rfl (c_change (s := s) hf hs (hw.moved hfl) (hlw.moved (ek2 0 (by decide))) (hfk.moved hfl) (by rw [e39']; exact hsit) (fun hi' g1 g2 => ?_))
      refine wq_iconst q120_54 ?_
      refine rI q120_55 rfl ?_
      refine h1 hi' ⟨?_, ?_, ?_, ?_, ?_⟩
      · rw [g2, e39', chg_congr hfl]
      · rw [g1 49 (by decide)]
        show upC (up2 (up2 (upC hi 49 _) 48 1 _) 48 2 _) 45 _ 49 = _
        rw [upC_o _ _ (by decide), up2_o _ _ _ (by decide), up2_o _ _ _ (by decide), upC_s]
      · rw [g1 48 (by decide)]
        rfl
      · rw [g1 45 (by decide), upC_s]
        rfl
      · intro b hb
        rw [g1 b (fun z => hb ((show ∀ x ∈ (52 :: 39 :: scr0), x ∈ (45 :: 48 :: 49 :: 52 :: 39 :: scr0) by decide) b z)), ek2 b (fun z => hb ((show ∀ x ∈ (45 :: 48 :: 49 :: []), x ∈ (45 :: 48 :: 49 :: 52 :: 39 :: scr0) by decide) b z))]
  · have hb := i01 c11
    refine wq_iconst q120_14 ?_
    refine rI q120_15 rfl ?_
    exact h0 hb
/-- an act by hand -/
def actQ (hi : Nat → Nat → Int32) (f : Nat) (lw : Option Nat) (sz n ev : Nat) (s : Nat → Nat) (wi nx kp dy : Nat) (kd fi se : Int32) (hi' : Nat → Nat → Int32) : Prop := actP hi (chg hi f lw sz n ev s wi (hi 39) kd fi se) (decide (kd = 4)) nx kp dy hi'
theorem c_see {ev wi nx kp dy : Nat} {s : Nat → Nat} {x : Int32} (hk : OwK hi f lw sz n ev wi nx kp dy s) (h0 : canB hi f (hi 39) n 0 x (-1) = false → Q (some (.int (-1))) (HP hi hl f dr t))
    (h1 : canB hi f (hi 39) n 0 x (-1) = true → ∀ hi', actQ hi f lw sz n ev s wi nx kp dy 0 x (-1) hi' → Q (some (.int (hi' 39 28))) (HP hi' hl f dr t)) : Ct G (0, 0) (d + 8) 109 [.ref 0, .int x] (HP hi hl f dr t) Q := by
  refine Ct_of (ls := [_, _]) m_109.1.2.2.1 (Nat.le_of_ble_eq_true rfl) rfl ?_
  refine wq_aload_n q109_0 rfl ?_
  refine wq_iconst q109_1 ?_
  refine wq_iload_n q109_2 rfl ?_
  refine wq_iconst q109_3 ?_
  refine cV (As := [_, _, _]) q109_4 m_120 rfl rfl rfl ⟨by decide, rfl⟩ rfl (c_acted hk (fun hb => ?_) (fun hb hi' hp => ?_))
  · refine wq_if_eq q109_7 (fun c7 => ?_) (fun c7 => ?_)
    · refine wq_iconst q109_23 ?_
      refine rI q109_24 rfl ?_
      exact h0 hb
    · exact absurd rfl c7
  · refine wq_if_eq q109_7 (fun c7 => ?_) (fun c7 => ?_)
    · exact absurd c7 (by decide)
    · refine wq_aload_n q109_10 rfl ?_
      refine wq_getR q109_11 rfl rfl rfl ?_
      refine wq_getR q109_14 rfl rfl rfl ?_
      refine wq_bipush q109_17 ?_
      refine aI q109_19 rfl (rfl) (by decide) (by first | decide | omega) ?_
      refine wq_goto q109_20 ?_
      refine rI q109_24 rfl ?_
      exact h1 hb hi' hp
theorem c_tell {ev wi nx kp dy : Nat} {s : Nat → Nat} (hk : OwK hi f lw sz n ev wi nx kp dy s) (h0 : canB hi f (hi 39) n 2 (-1) (-1) = false → Q (some (.int (-1))) (HP hi hl f dr t))
    (h1 : canB hi f (hi 39) n 2 (-1) (-1) = true → ∀ hi', actQ hi f lw sz n ev s wi nx kp dy 2 (-1) (-1) hi' → Q (some (.int (hi' 39 29))) (HP hi' hl f dr t)) : Ct G (0, 0) (d + 8) 110 [.ref 0] (HP hi hl f dr t) Q := by
  refine Ct_of (ls := [_]) m_110.1.2.2.1 (Nat.le_of_ble_eq_true rfl) rfl ?_
  refine wq_aload_n q110_0 rfl ?_
  refine wq_iconst q110_1 ?_
  refine wq_iconst q110_2 ?_
  refine wq_iconst q110_3 ?_
  refine cV (As := [_, _, _]) q110_4 m_120 rfl rfl rfl ⟨by decide, rfl⟩ rfl (c_acted hk (fun hb => ?_) (fun hb hi' hp => ?_))
  · refine wq_if_eq q110_7 (fun c7 => ?_) (fun c7 => ?_)
    · refine wq_iconst q110_23 ?_
      refine rI q110_24 rfl ?_
      exact h0 hb
    · exact absurd rfl c7
  · refine wq_if_eq q110_7 (fun c7 => ?_) (fun c7 => ?_)
    · exact absurd c7 (by decide)
    · refine wq_aload_n q110_10 rfl ?_
      refine wq_getR q110_11 rfl rfl rfl ?_
      refine wq_getR q110_14 rfl rfl rfl ?_
      refine wq_bipush q110_17 ?_
      refine aI q110_19 rfl (rfl) (by decide) (by first | decide | omega) ?_
      refine wq_goto q110_20 ?_
      refine rI q110_24 rfl ?_
      exact h1 hb hi' hp
theorem actP.fort {hi' row' : Nat → Nat → Int32} {x : Nat → Int32} {log : Bool} {nx kp dy : Nat} (hf : Fok f) (hw : Lawk hi lw sz) (h : actP hi x log nx kp dy hi') : FLs f lw hi hi' := FLs_of hf hw h.2.2.2.2 (by decide)
theorem c_move {ev wi nx kp dy : Nat} {s : Nat → Nat} {x y : Int32} (hk : OwK hi f lw sz n ev wi nx kp dy s) (h0 : canB hi f (hi 39) n 1 x y = false → Q (some (.int (-1))) (HP hi hl f dr t))
    (h1 : canB hi f (hi 39) n 1 x y = true → ∀ hi', actQ hi f lw sz n ev s wi nx kp dy 1 x y hi' → Q (some (.int (hi' 39 wi))) (HP hi' hl f dr t)) : Ct G (0, 0) (d + 8) 111 [.ref 0, .int x, .int y] (HP hi hl f dr t) Q := by
  refine Ct_of (ls := [_, _, _]) m_111.1.2.2.1 (Nat.le_of_ble_eq_true rfl) rfl ?_
  refine wq_aload_n q111_0 rfl ?_
  refine wq_iconst q111_1 ?_
  refine wq_iload_n q111_2 rfl ?_
  refine wq_iload_n q111_3 rfl ?_
  refine cV (As := [_, _, _]) q111_4 m_120 rfl rfl rfl ⟨by decide, rfl⟩ rfl (c_acted hk (fun hb => ?_) (fun hb hi' hp => ?_))
  · refine wq_if_eq q111_7 (fun c7 => ?_) (fun c7 => ?_)
    · refine wq_iconst q111_17 ?_
      refine rI q111_18 rfl ?_
      exact h0 hb
    · exact absurd rfl c7
  · refine wq_if_eq q111_7 (fun c7 => ?_) (fun c7 => ?_)
    · exact absurd c7 (by decide)
    · have hfl : FLs f lw hi hi' := FLs_of hk.1 hk.2.1 hp.2.2.2.2 (by decide)
      refine wq_aload_n q111_10 rfl ?_
      refine cV (As := []) q111_11 m_106 rfl rfl rfl ⟨by decide, rfl⟩ rfl (c_teller (wi := wi) hk.1 (by have := hk.2.2.2.1; have h1 := this.1; have h2 := this.2.2.2.1; omega) (by rw [hfl.2.1]; exact hk.2.2.2.1.2.2.2.2.2.2) ?_)
      refine wq_goto q111_14 ?_
      refine rI q111_18 rfl ?_
      exact h1 hb hi' hp
theorem c_code {ev wi nx kp dy : Nat} {s : Nat → Nat} (hk : OwK hi f lw sz n ev wi nx kp dy s) (h0 : canB hi f (hi 39) n 3 (-1) (-1) = false → Q (some (.int (-1))) (HP hi hl f dr t))
    (h1 : canB hi f (hi 39) n 3 (-1) (-1) = true → ∀ hi', actQ hi f lw sz n ev s wi nx kp dy 3 (-1) (-1) hi' → Q (some (.int (nI (riR (fun i => hi 39 (7 + i)) (n - 1) 1 0)))) (HP hi' hl f dr t)) : Ct G (0, 0) (d + 8) 113 [.ref 0] (HP hi hl f dr t) Q := by
  obtain ⟨f1, -⟩ := hk.1.frt hi hl f dr t
  have hs : Sok 38 39 := Or.inl ⟨rfl, rfl⟩
  have ec : hI (HP hi hl f dr t) f 3 = nI n := hk.2.2.2.1.2.2.2.2.1
  refine Ct_of (ls := [_, _]) m_113.1.2.2.1 (Nat.le_of_ble_eq_true rfl) rfl ?_
  refine wq_aload_n q113_0 rfl ?_
  refine wq_getR q113_1 (by first | exact f1 | rfl) rfl (by first | exact f1 | rfl) ?_
  refine wq_aload_n q113_4 rfl ?_
  refine wq_getR q113_5 (by first | exact f1 | rfl) rfl (by first | exact f1 | rfl) ?_
  refine wq_getI q113_8 (by first | exact f1 | rfl) rfl ?_
  rw [ec]
  refine cV (As := [_]) q113_11 m_59 rfl rfl rfl ⟨by decide, rfl⟩ rfl (c_richest (hs.scn _ _ _ _ _) hk.2.2.2.1.1 ?_)
  refine wq_istore_n (ls' := [_, _]) q113_14 rfl ?_
  refine wq_aload_n q113_15 rfl ?_
  refine wq_iconst q113_16 ?_
  refine wq_iconst q113_17 ?_
  refine wq_iconst q113_18 ?_
  refine cV (As := [_, _, _]) q113_19 m_120 rfl rfl rfl ⟨by decide, rfl⟩ rfl (c_acted hk (fun hb => ?_) (fun hb hi' hp => ?_))
  · refine wq_if_eq q113_22 (fun c22 => ?_) (fun c22 => ?_)
    · refine wq_iconst q113_29 ?_
      refine rI q113_30 rfl ?_
      exact h0 hb
    · exact absurd rfl c22
  · refine wq_if_eq q113_22 (fun c22 => ?_) (fun c22 => ?_)
    · exact absurd c22 (by decide)
    · refine wq_iload_n q113_25 rfl ?_
      refine wq_goto q113_26 ?_
      refine rI q113_30 rfl ?_
      exact h1 hb hi' hp
theorem c_mirror {ev wi nx kp dy : Nat} {s : Nat → Nat} {p b : Int32} (hk : OwK hi f lw sz n ev wi nx kp dy s)
    (h0 : ¬ (inB p (hi f 3) = true ∧ 0 ≤ b ∧ b < 1 <<< (hi f 4 &&& 31) ∧ ∀ j, p = nI j → ¬ hi 39 (14 + j) = b) → Q (some (.int 0)) (HP hi hl f dr t))
    (h1 : ∀ j, p = nI j → j < n → inB p (hi f 3) = true → 0 ≤ b → b < 1 <<< (hi f 4 &&& 31) → ¬ hi 39 (14 + j) = b → ∀ hi', actP hi (va_up (hi 39) (14 + j) b) false nx kp dy hi' → Q (some (.int 1)) (HP hi' hl f dr t)) : Ct G (0, 0) (d + 2) 112 [.ref 0, .int p, .int b] (HP hi hl f dr t) Q := by
  obtain ⟨hf, hw, hlw, hfk, hsit, ⟨ha1, ha2, ha3, ha4⟩, hd1, hd2⟩ := hk
  obtain ⟨f1, -⟩ := hf.frt hi hl f dr t
  have hs : Sok 38 39 := Or.inl ⟨rfl, rfl⟩
  refine Ct_of (ls := [_, _, _]) m_112.1.2.2.1 (Nat.le_of_ble_eq_true rfl) rfl ?_
  refine wq_aload_n q112_0 rfl ?_
  refine wq_iload_n q112_1 rfl ?_
  refine cV (As := [_]) q112_2 m_103 rfl rfl rfl ⟨by decide, rfl⟩ rfl (c_isPrisoner hf ?_)
  refine wq_if_eq q112_5 (fun c5 => ?_) (fun c5 => ?_)
  · have hb := i01 c5
    refine wq_iconst q112_25 ?_
    refine rI q112_26 rfl ?_
    exact h0 (fun z => by rw [z.1] at hb; cases hb)
  · have hb := i10 c5
    obtain ⟨j, hj, rfl⟩ : ∃ j, j < n ∧ p = nI j := by
      have h2 : ¬ p < 0 ∧ p < nI n := by
        rw [hfk.2.2.2.2.1] at hb
        simp [inB] at hb
        exact ⟨Int32.not_lt.mpr hb.1, hb.2⟩
      obtain ⟨j, hj, rfl⟩ := nI_of h2.1
      exact ⟨j, (nI_ltI hj (by have := hfk.1; omega)).mp h2.2, rfl⟩
    have hn := hfk.1
    refine wq_iload_n q112_8 rfl ?_
    refine wq_if_lt q112_9 (fun c9 => ?_) (fun c9 => ?_)
    · refine wq_iconst q112_25 ?_
      refine rI q112_26 rfl ?_
      exact h0 (fun z => absurd z.2.1 (Int32.not_le.mpr c9))
    · refine wq_iload_n q112_12 rfl ?_
      refine wq_iconst q112_13 ?_
      refine wq_aload_n q112_14 rfl ?_
      refine wq_getR q112_15 (by first | exact f1 | rfl) rfl (by first | exact f1 | rfl) ?_
      refine wq_getI q112_18 (by first | exact f1 | rfl) rfl ?_
      refine wq_ishl q112_21 ?_
      refine wq_icmp_lt q112_22 (fun c22 => ?_) (fun c22 => ?_)
      · refine wq_aload_n q112_27 rfl ?_
        refine wq_getR q112_28 rfl rfl rfl ?_
        refine wq_getR q112_31 rfl rfl rfl ?_
        refine wq_bipush q112_34 ?_
        refine wq_iload_n q112_36 rfl ?_
        refine wq_iadd q112_37 ?_
        refine aI q112_38 rfl (nI_add 14 _) (by show 14 + j < 33; omega) (by first | decide | omega) ?_
        refine wq_iload_n q112_39 rfl ?_
        refine wq_icmp_ne q112_40 (fun c40 => ?_) (fun c40 => ?_)
        · refine wq_aload_n q112_45 rfl ?_
          refine wq_getR q112_46 rfl rfl rfl ?_
          refine wq_aload_n q112_49 rfl ?_
          refine wq_getR q112_50 rfl rfl rfl ?_
          refine cV (As := [_]) q112_53 m_2 rfl rfl rfl ⟨by decide, rfl⟩ rfl (c_keep (a := 38) (r := 39) (hs.scn _ _ _ _ _) ha1 ha2 ha3 ha4 ?_)
          have ek := keA_same (hi := hi) nx kp
          refine wq_aload_n q112_56 rfl ?_
          refine wq_getR q112_57 rfl rfl rfl ?_
          refine wq_getR q112_60 rfl rfl rfl ?_
          refine wq_bipush q112_63 ?_
          refine wq_iload_n q112_65 rfl ?_
          refine wq_iadd q112_66 ?_
          refine wq_iload_n q112_67 rfl ?_
          refine sI q112_68 rfl (nI_add 14 _) (by show 14 + j < 33; omega) (by first | decide | omega) rfl ?_
          refine wq_iconst q112_69 ?_
          refine rI q112_70 rfl ?_
          refine h1 j rfl hj hb (Int32.not_lt.mp c9) c22 c40 _ ⟨?_, ?_, ?_, ?_, ?_⟩
          · show va_up (keA hi 39 nx kp 39) (14 + j) b = _
            rw [ek 39 (by decide)]
          · show up2 (up2 (up2 (upC hi 49 _) 48 1 _) 48 2 _) 39 _ _ 49 = _
            rw [up2_o _ _ _ (by decide), up2_o _ _ _ (by decide), up2_o _ _ _ (by decide), upC_s]
          · rfl
          · exact ek 45 (by decide)
          · intro b' hb'
            show up2 (keA hi 39 nx kp) 39 (14 + j) b b' = _
            rw [up2_o _ _ _ (fun z => hb' (by rw [z]; decide))]
            exact ek b' (fun z => hb' ((show ∀ x ∈ (48 :: 49 :: []), x ∈ (45 :: 48 :: 49 :: 52 :: 39 :: scr0) by decide) b' z))
        · refine wq_iconst q112_43 ?_
          refine rI q112_44 rfl ?_
          exact h0 (fun z => z.2.2.2 j rfl c40)
      · refine wq_iconst q112_25 ?_
        refine rI q112_26 rfl ?_
        exact h0 (fun z => c22 z.2.2.1)
end ACTED
