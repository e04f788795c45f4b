/-! KNOCKING: contracts -/
theorem wo_congr {sg : Nat → Int32} {sz : Nat} {lt lt' : Nat → Int32} (hlt : ∀ j, j < 6 → lt j = lt' j) : ∀ (m i dp : Nat) (stk stk' : Nat → Int32), (∀ j, j < dp → stk j = stk' j) → wo sg sz lt m i dp stk = wo sg sz lt' m i dp stk' := by
  intro m
  induction m with
  | zero => intro i dp stk stk' _; rfl
  | succ m ih =>
    intro i dp stk stk' hs
    unfold wo
    split
    · rfl
    · split
      · rename_i h6
        have hv : (if sg i < 0 then lt (lx (sg i)) else sg i) = (if sg i < 0 then lt' (lx (sg i)) else sg i) := by
          split
          · rename_i hneg
            refine hlt _ ?_
            have := lx_in h6 hneg
            exact Nat.not_le.mp (fun z => this (Or.inr z))
          · rfl
        rw [hv]
        split
        · refine ih _ _ _ _ (fun j hj => ?_)
          by_cases hj2 : j = dp
          · subst hj2; simp [va_up]
          · simp only [va_up, if_neg hj2]
            exact hs j (by omega)
        · exact ih _ _ _ _ hs
      · split
        · split
          · rfl
          · exact hs _ (by omega)
        · rename_i h59
          have hdp : 1 ≤ dp := by
            rcases Nat.lt_or_ge dp 1 with z | z
            · exact absurd (Or.inr z) h59
            · exact z
          rw [hs (dp - 1) (by omega)]
          split
          · refine ih _ _ _ _ (fun j hj => ?_)
            by_cases hj2 : j = dp - 1
            · subst hj2; simp [va_up]
            · simp only [va_up, if_neg hj2]
              exact hs j hj
          · split
            · exact ih _ _ _ _ (fun j hj => hs j (by omega))
            · split
              · exact ih _ _ _ _ hs
              · rw [hs (dp - 2) (by omega)]
                refine ih _ _ _ _ (fun j hj => ?_)
                by_cases hj2 : j = dp - 2
                · subst hj2; simp [va_up]
                · simp only [va_up, if_neg hj2]
                  exact hs j (by omega)
/-- the value of a law for letters -/
def lawV (sg : Nat → Int32) (sz : Nat) (lt : Nat → Int32) : Int32 := wo sg sz lt sz 0 0 (fun _ => 0)
def LT (tk kn me : Int32) (v : Nat) (dy ln : Int32) : Nat → Int32 := fun j => if j = 0 then tk else if j = 1 then kn else if j = 2 then me else if j = 3 then nI v else if j = 4 then dy else ln
def mx0 (y : Int32) : Int32 := if 0 < y then y else 0
def mn99 (y : Int32) : Int32 := if y < 99 then y else 99
def Fok (f : Nat) : Prop := f = 3 ∨ f = 7
def Sok (a r : Nat) : Prop := (a = 38 ∧ r = 39) ∨ (a = 40 ∧ r = 41) ∨ (a = 42 ∧ r = 43)
def Lok (a : Nat) : Prop := a = 13 ∨ a = 18 ∨ a = 23 ∨ a = 28 ∨ a = 33
theorem Fok.frt {f : Nat} (h : Fok f) (hi : Nat → Nat → Int32) (hl : Nat → Nat → Int64) (f' dr t : Nat) : Frt (HP hi hl f' dr t) f := by
  rcases h with rfl | rfl <;> exact ⟨rfl, rfl, rfl, rfl, rfl, rfl, rfl⟩
theorem Sok.scn {a r : Nat} (h : Sok a r) (hi : Nat → Nat → Int32) (hl : Nat → Nat → Int64) (f dr t : Nat) : Scn (HP hi hl f dr t) a r := by
  rcases h with ⟨rfl, rfl⟩ | ⟨rfl, rfl⟩ | ⟨rfl, rfl⟩ <;> exact ⟨rfl, rfl, rfl, rfl⟩
theorem Lok.lw {a : Nat} (h : Lok a) (hi : Nat → Nat → Int32) (hl : Nat → Nat → Int64) (f dr t : Nat) : Lw (HP hi hl f dr t) a := by
  rcases h with rfl | rfl | rfl | rfl | rfl <;> exact ⟨rfl, rfl, rfl, rfl, rfl, rfl⟩
/-- a law is none, or one of five, and its size is known -/
def Lawk (hi : Nat → Nat → Int32) (lw : Option Nat) (sz : Nat) : Prop := ∀ a, lw = some a → Lok a ∧ hi a 2 = nI sz ∧ sz ≤ 241
/-- nothing but scratch has changed -/
def scr0 : List Nat := [51, 53, 15, 20, 25, 30, 35]
def Same (S : List Nat) (hi hi' : Nat → Nat → Int32) : Prop := ∀ b, b ∉ S → hi' b = hi b
theorem Same.rf {S : List Nat} {hi : Nat → Nat → Int32} : Same S hi hi := fun _ _ => rfl
theorem Same.up {S : List Nat} {hi hi' : Nat → Nat → Int32} (h : Same S hi hi') {a : Nat} (ha : a ∈ S) (F : Nat → Int32) : Same S hi (upC hi' a F) := fun b hb => by
  rw [upC_o _ _ (fun z => hb (by rw [z]; exact ha))]
  exact h b hb
theorem Same.tr {S : List Nat} {hi hi' hi2 : Nat → Nat → Int32} (h : Same S hi hi') (h2 : Same S hi' hi2) : Same S hi hi2 := fun b hb => (h2 b hb).trans (h b hb)
/-- what a wall takes -/
def tkV (hi : Nat → Nat → Int32) (lw : Option Nat) (sz : Nat) (lt : Nat → Int32) (tk me : Int32) : Int32 := match lw with
  | none => tk
  | some a => mx0 (mn99 (lawV (hi (a + 1)) sz (va_up (va_up lt 0 tk) 2 me)))
def bhV (ah tk : Int32) : Int32 := if 0 < ah then mx0 (ah - tk) else 0
section KNOCK
variable {G : ph_G} {d a r n f dr t sz : Nat} {hi : Nat → Nat → Int32} {hl : Nat → Nat → Int64} {Q : Option Value → ph_H → Prop} {lw : Option Nat}
theorem c_behind {ah tk me : Int32} (hw : Lawk hi lw sz) (hQ : ∀ hi', Same scr0 hi hi' → hi' 51 = hi 51 → (∀ j, j ≠ 0 → j ≠ 2 → hi' 53 j = hi 53 j) → Q (some (.int (bhV ah (tkV hi lw sz (hi 53) tk me)))) (HP hi' hl f dr t)) : Ct G (0, 0) (d + 3) 29 [.ref 50, .int ah, .int tk, .int me, va_rf lw] (HP hi hl f dr t) Q := by
  cases lw with
  | none =>
    refine Ct_of (ls := [_, _, _, _, _, _]) m_29.1.2.2.1 (Nat.le_of_ble_eq_true rfl) rfl ?_
    refine wq_iload_n q29_0 rfl ?_
    refine wq_if_gt q29_1 (fun c1 => ?_) (fun c1 => ?_)
    · refine wq_iload_n q29_6 rfl ?_
      refine wq_istore (ls' := [_, _, _, _, _, _]) q29_7 rfl ?_
      refine wq_aloadN q29_9 rfl ?_
      refine wq_ifnullN q29_11 ?_
      refine wq_iconst q29_48 ?_
      refine wq_iload_n q29_49 rfl ?_
      refine wq_iload q29_50 rfl ?_
      refine wq_isub q29_52 ?_
      refine wq_max q29_53 ⟨Nat.le.refl, Nat.le.refl, Nat.le_of_ble_eq_true rfl⟩ ?_
      refine rI q29_56 rfl ?_
      have := hQ hi Same.rf rfl (fun _ _ _ => rfl)
      rw [bhV, if_pos c1] at this
      exact this
    · refine wq_iconst q29_4 ?_
      refine rI q29_5 rfl ?_
      have := hQ hi Same.rf rfl (fun _ _ _ => rfl)
      rw [bhV, if_neg c1] at this
      exact this
  | some la =>
    obtain ⟨hk, hz, hz'⟩ := hw la rfl
    have hL := hk.lw
    obtain ⟨l1, -⟩ := hk.lw hi hl f dr t
    refine Ct_of (ls := [_, _, _, _, _, _]) m_29.1.2.2.1 (Nat.le_of_ble_eq_true rfl) rfl ?_
    refine wq_iload_n q29_0 rfl ?_
    refine wq_if_gt q29_1 (fun c1 => ?_) (fun c1 => ?_)
    · refine wq_iload_n q29_6 rfl ?_
      refine wq_istore (ls' := [_, _, _, _, _, _]) q29_7 rfl ?_
      refine wq_aload q29_9 rfl ?_
      refine wq_ifnull q29_11 ?_
      refine wq_aload_n q29_14 rfl ?_
      refine wq_getR q29_15 (by first | exact l1 | rfl) rfl (by first | exact l1 | rfl) ?_
      refine wq_iconst q29_18 ?_
      refine wq_iload_n q29_19 rfl ?_
      refine sI q29_20 (by first | exact l1 | rfl) (rfl) (by decide) (by first | decide | omega) (by first | exact l1 | rfl) ?_
      refine wq_aload_n q29_21 rfl ?_
      refine wq_getR q29_22 (by first | exact l1 | rfl) rfl (by first | exact l1 | rfl) ?_
      refine wq_iconst q29_25 ?_
      refine wq_iload_n q29_26 rfl ?_
      refine sI q29_27 (by first | exact l1 | rfl) (rfl) (by decide) (by first | decide | omega) (by first | exact l1 | rfl) ?_
      refine wq_iconst q29_28 ?_
      refine wq_bipush q29_29 ?_
      refine wq_aload q29_31 rfl ?_
      refine wq_aload_n q29_33 rfl ?_
      refine wq_getR q29_34 (by first | exact l1 | rfl) rfl (by first | exact l1 | rfl) ?_
      refine cV (As := [_]) q29_37 m_45 rfl rfl (by first | exact l1 | rfl) ⟨by decide, rfl⟩ rfl (c_worth (sz := sz) (hL _ _ _ _ _) ?_ hz' rfl ?_ (fun F => ?_))
      · rcases hk with rfl | rfl | rfl | rfl | rfl <;> exact hz
      · rcases hk with rfl | rfl | rfl | rfl | rfl <;> decide
      · refine wq_min q29_40 ⟨Nat.le.refl, Nat.le.refl, Nat.le_of_ble_eq_true rfl⟩ ?_
        refine wq_max q29_43 ⟨Nat.le.refl, Nat.le.refl, Nat.le_of_ble_eq_true rfl⟩ ?_
        refine wq_istore (ls' := [_, _, _, _, _, _]) q29_46 rfl ?_
        refine wq_iconst q29_48 ?_
        refine wq_iload_n q29_49 rfl ?_
        refine wq_iload q29_50 rfl ?_
        refine wq_isub q29_52 ?_
        refine wq_max q29_53 ⟨Nat.le.refl, Nat.le.refl, Nat.le_of_ble_eq_true rfl⟩ ?_
        refine rI q29_56 rfl ?_
        have e1 : stC (stI (stI (HP hi hl f dr t) 53 0 tk) 53 2 me) (la + 2) F = HP (upC (up2 (up2 hi 53 0 tk) 53 2 me) (la + 2) F) hl f dr t := rfl
        have e2 : hI (stI (stI (HP hi hl f dr t) 53 0 tk) 53 2 me) 53 = va_up (va_up (hi 53) 0 tk) 2 me := rfl
        have e3 : hI (stI (stI (HP hi hl f dr t) 53 0 tk) 53 2 me) (la + 1) = hi (la + 1) := by
          rcases hk with rfl | rfl | rfl | rfl | rfl <;> rfl
        have hne : la + 2 ≠ 51 ∧ la + 2 ≠ 53 := by rcases hk with rfl | rfl | rfl | rfl | rfl <;> decide
        have hin : la + 2 ∈ scr0 := by rcases hk with rfl | rfl | rfl | rfl | rfl <;> decide
        rw [e1, e2, e3, wo_congr (lt' := va_up (va_up (hi 53) 0 tk) 2 me) (fun _ _ => rfl) sz 0 0 _ (fun _ => 0) (fun j hj => by omega)]
        have := hQ (upC (up2 (up2 hi 53 0 tk) 53 2 me) (la + 2) F) ?_ ?_ ?_
        · rw [bhV, if_pos c1] at this
          exact this
        · refine Same.up ?_ hin F
          rw [up2_C]
          refine Same.up ?_ (by decide) _
          rw [up2_C]
          exact Same.up Same.rf (by decide) _
        · rw [upC_o _ _ hne.1.symm]; rfl
        · intro j h0 h2
          rw [upC_o _ _ hne.2.symm]
          show va_up (va_up (hi 53) 0 tk) 2 me j = _
          simp [va_up, h0, h2]
    · refine wq_iconst q29_4 ?_
      refine rI q29_5 rfl ?_
      have := hQ hi Same.rf rfl (fun _ _ _ => rfl)
      rw [bhV, if_neg c1] at this
      exact this
/-- strengths: from a cell upwards and downwards; bw w c s: what is left of s behind the wall w in the cell c -/
def spU (bw : Nat → Nat → Int32 → Int32) (fr : Nat) (l : Int32) : Nat → Int32
  | 0 => l
  | k + 1 => bw (fr + k) (fr + k + 1) (spU bw fr l k)
def spD (bw : Nat → Nat → Int32 → Int32) (fr : Nat) (l : Int32) : Nat → Int32
  | 0 => l
  | k + 1 => bw (fr - (k + 1)) (fr - (k + 1)) (spD bw fr l k)
def spC (bw : Nat → Nat → Int32 → Int32) (fr : Nat) (l : Int32) (c : Nat) : Int32 := if fr ≤ c then spU bw fr l (c - fr) else spD bw fr l (fr - c)
/-- the class's walls: fort at f, sits by s -/
def bwC (hi : Nat → Nat → Int32) (f : Nat) (lw : Option Nat) (sz v : Nat) (row : Nat → Int32) (s : Nat → Nat) (w c : Nat) (x : Int32) : Int32 :=
  bhV x (tkV hi lw sz (LT 0 (hi (f + 3) (v * 2)) 0 v (row 32) (row 31)) (hi (f + 2) (w * 5)) (hi (f + 2) (s c * 5 + 1)))
theorem tkV_congr {hi hi' : Nat → Nat → Int32} {lt lt' : Nat → Int32} {tk me : Int32} (hs : ∀ a, lw = some a → hi' (a + 1) = hi (a + 1)) (hlt : ∀ j, j < 6 → j ≠ 0 → j ≠ 2 → lt' j = lt j) : tkV hi' lw sz lt' tk me = tkV hi lw sz lt tk me := by
  cases lw with
  | none => rfl
  | some a =>
    simp only [tkV]
    rw [hs a rfl]
    unfold lawV
    rw [wo_congr (lt' := va_up (va_up lt 0 tk) 2 me) (fun j hj => ?_) sz 0 0 _ (fun _ => 0) (fun _ _ => rfl)]
    by_cases h2 : j = 2
    · subst h2; simp [va_up]
    · by_cases h0 : j = 0
      · subst h0; simp [va_up]
      · simp only [va_up, if_neg h2, if_neg h0]
        exact hlt j hj h0 h2
theorem Lok.scr {a b : Nat} (h : Lok a) (hb : b = a ∨ b = a + 1) : b ∉ scr0 := by
  rcases h with rfl | rfl | rfl | rfl | rfl <;> rcases hb with rfl | rfl <;> decide
theorem Fok.scr {a b : Nat} (h : Fok a) (hb : b = a ∨ b = a + 1 ∨ b = a + 2 ∨ b = a + 3) : b ∉ scr0 := by
  rcases h with rfl | rfl <;> rcases hb with rfl | rfl | rfl | rfl <;> decide
theorem Sok.scr {a b r : Nat} (h : Sok a r) (hb : b = a ∨ b = r) : b ∉ scr0 := by
  rcases h with ⟨rfl, rfl⟩ | ⟨rfl, rfl⟩ | ⟨rfl, rfl⟩ <;> rcases hb with rfl | rfl <;> decide
/-- what holds while knocks spread -/
def spI (hi : Nat → Nat → Int32) (f v : Nat) (row : Nat → Int32) (S : Nat → Int32) (lo hi0 : Nat) (hi' : Nat → Nat → Int32) : Prop :=
  Same scr0 hi hi' ∧ (∀ j, j < 6 → j ≠ 0 → j ≠ 2 → hi' 53 j = LT 0 (hi (f + 3) (v * 2)) 0 v (row 32) (row 31) j) ∧ ∀ c, lo ≤ c → c < hi0 → hi' 51 c = S c
/-- one wall on -/
theorem c_behind' {hi' : Nat → Nat → Int32} {f' v w c lo hi0 : Nat} {row S : Nat → Int32} {s : Nat → Nat} (hw : Lawk hi lw sz) (hI' : spI hi f v row S lo hi0 hi')
    {ah : Int32} (hQ : ∀ hi2, spI hi f v row S lo hi0 hi2 → Q (some (.int (bwC hi f lw sz v row s w c ah))) (HP hi2 hl f' dr t)) : Ct G (0, 0) (d + 3) 29 [.ref 50, .int ah, .int (hi (f + 2) (w * 5)), .int (hi (f + 2) (s c * 5 + 1)), va_rf lw] (HP hi' hl f' dr t) Q := by
  obtain ⟨h1, h2, h3⟩ := hI'
  have hw' : Lawk hi' lw sz := fun a ha => by
    obtain ⟨k1, k2, k3⟩ := hw a ha
    exact ⟨k1, by rw [h1 a (k1.scr (Or.inl rfl))]; exact k2, k3⟩
  refine c_behind hw' (fun hi2 g1 g2 g3 => ?_)
  have e : tkV hi' lw sz (hi' 53) (hi (f + 2) (w * 5)) (hi (f + 2) (s c * 5 + 1)) = tkV hi lw sz (LT 0 (hi (f + 3) (v * 2)) 0 v (row 32) (row 31)) (hi (f + 2) (w * 5)) (hi (f + 2) (s c * 5 + 1)) :=
    tkV_congr (fun a ha => h1 _ ((hw a ha).1.scr (Or.inr rfl))) h2
  rw [e]
  exact hQ hi2 ⟨h1.tr g1, fun j hj h0 h4 => by rw [g3 j h0 h4]; exact h2 j hj h0 h4, fun c hc1 hc2 => by rw [g2]; exact h3 c hc1 hc2⟩
theorem spI.fort {hi' : Nat → Nat → Int32} {v lo hi0 : Nat} {row S : Nat → Int32} (h : spI hi f v row S lo hi0 hi') (hf : Fok f) : hi' f = hi f ∧ hi' (f + 1) = hi (f + 1) ∧ hi' (f + 2) = hi (f + 2) ∧ hi' (f + 3) = hi (f + 3) :=
  ⟨h.1 _ (hf.scr (Or.inl rfl)), h.1 _ (hf.scr (Or.inr (Or.inl rfl))), h.1 _ (hf.scr (Or.inr (Or.inr (Or.inl rfl)))), h.1 _ (hf.scr (Or.inr (Or.inr (Or.inr rfl))))⟩
theorem spI.put {hi' : Nat → Nat → Int32} {v lo hi0 lo' hi0' c : Nat} {row S : Nat → Int32} (h : spI hi f v row S lo hi0 hi') {x : Int32} (hx : x = S c) (hc : ∀ j, lo' ≤ j → j < hi0' → j = c ∨ (lo ≤ j ∧ j < hi0)) : spI hi f v row S lo' hi0' (up2 hi' 51 c x) := by
  refine ⟨by rw [up2_C]; exact h.1.up (by decide) _, fun j h1 h2 h3 => h.2.1 j h1 h2 h3, fun j h1 h2 => ?_⟩
  show va_up (hi' 51) c x j = S j
  by_cases hj : j = c
  · subst hj; simp [va_up, hx]
  · simp only [va_up, if_neg hj]
    rcases hc j h1 h2 with z | z
    · exact absurd z hj
    · exact h.2.2 j z.1 z.2
theorem c_spread_up {v fr : Nat} {s : Nat → Nat} {S : Nat → Int32} (hf : Fok f) (hs : Sok a r) (hw : Lawk hi lw sz) (hn : n ≤ 7) (hc : hi f 3 = nI n) (hr : r ∉ scr0) (hsit : ∀ c, c < n → hi r c = nI (s c) ∧ s c < 7) (hS : ∀ c, fr < c → c < n → S c = bwC hi f lw sz v (hi r) s (c - 1) c (S (c - 1)))
    (K : ∀ hi' x6 x7, spI hi f v (hi r) S fr n hi' → wq G (0, 0) (d + 4) 28 124 [some (.ref 50), some (.ref f), some (.ref a), some (va_rf lw), some (.int (nI v)), some (.int (nI fr)), x6, x7] [] (0, 0) (HP hi' hl f dr t) Q) :
    ∀ (m c : Nat) (hi' : Nat → Nat → Int32) (x7 : Option Value), c + m = n → fr < c → spI hi f v (hi r) S fr c hi' →
    wq G (0, 0) (d + 4) 28 63 [some (.ref 50), some (.ref f), some (.ref a), some (va_rf lw), some (.int (nI v)), some (.int (nI fr)), some (.int (nI c)), x7] [] (0, 0) (HP hi' hl f dr t) Q := by
  intro m
  induction m with
  | zero =>
    intro c hi' x7 hm hfr hI'
    obtain ⟨f1, f2, f3, f4, f5, f6, f7⟩ := hf.frt hi' hl f dr t
    have e1 : hI (HP hi' hl f dr t) f 3 = nI n := by show hi' f 3 = _; rw [(hI'.fort hf).1]; exact hc
    refine wq_iload q28_63 rfl ?_
    refine wq_aload_n q28_65 rfl ?_
    refine wq_getI q28_66 (by first | exact f1 | rfl) rfl ?_
    refine wq_icmp_ge q28_69 (fun c69 => ?_) (fun c69 => ?_)
    · have : c = n := by omega
      subst this
      exact K hi' _ _ hI'
    · rw [e1, nI_leI (by omega) (by omega)] at c69
      omega
  | succ m ih =>
    intro c hi' x7 hm hfr hI'
    have hF := hf.frt hi' hl f dr t
    obtain ⟨f1, f2, f3, f4, f5, f6, f7⟩ := hf.frt hi' hl f dr t
    obtain ⟨s1, s2, s3, s4⟩ := hs.scn hi' hl f dr t
    have e1 : hI (HP hi' hl f dr t) f 3 = nI n := by show hi' f 3 = _; rw [(hI'.fort hf).1]; exact hc
    have e2 : hI (HP hi' hl f dr t) r c = nI (s c) := by show hi' r c = _; rw [hI'.1 r hr]; exact (hsit c (by omega)).1
    have e3 : hI (HP hi' hl f dr t) (f + 2) = hi (f + 2) := (hI'.fort hf).2.2.1
    have e4 : hI (HP hi' hl f dr t) 51 (c - 1) = S (c - 1) := hI'.2.2 (c - 1) (by omega) (by omega)
    refine wq_iload q28_63 rfl ?_
    refine wq_aload_n q28_65 rfl ?_
    refine wq_getI q28_66 (by first | exact f1 | rfl) rfl ?_
    refine wq_icmp_ge q28_69 (fun c69 => ?_) (fun c69 => ?_)
    · rw [e1, nI_leI (by omega) (by omega)] at c69
      omega
    · refine wq_aload_n q28_72 rfl ?_
      refine wq_aload_n q28_73 rfl ?_
      refine wq_getR q28_74 (by first | exact s1 | exact s2 | exact s3 | rfl) rfl (by first | exact s1 | exact s2 | exact s3 | rfl) ?_
      refine wq_iconst q28_77 ?_
      refine wq_iload q28_78 rfl ?_
      refine wq_iadd q28_80 ?_
      refine aI q28_81 (by first | exact s1 | exact s2 | exact s3 | rfl) ((by rw [show (0 : Int32) = nI 0 from rfl, nI_add, Nat.zero_add])) (by omega) (by first | decide | omega) ?_
      rw [e2]
      refine cV (As := [_]) q28_82 m_21 rfl rfl (by first | exact f1 | rfl) ⟨by decide, rfl⟩ rfl (c_merit hF (hsit c (by omega)).2 ?_)
      refine wq_istore (ls' := [_, _, _, _, _, _, _, _]) q28_85 rfl ?_
      refine wq_aload_n q28_87 rfl ?_
      refine wq_getR q28_88 (by first | exact f1 | rfl) rfl (by first | exact f1 | rfl) ?_
      refine wq_iload q28_91 rfl ?_
      refine wq_aload_n q28_93 rfl ?_
      refine wq_aload_n q28_94 rfl ?_
      refine wq_getR q28_95 (by first | exact f1 | rfl) rfl (by first | exact f1 | rfl) ?_
      refine wq_iload q28_98 rfl ?_
      refine wq_iconst q28_100 ?_
      refine wq_isub q28_101 ?_
      refine aI q28_102 (by first | exact f1 | rfl) (nI_m1 (by omega)) (by show c - 1 < 7; omega) (by first | decide | omega) ?_
      refine wq_aload_n q28_103 rfl ?_
      refine wq_iload q28_104 rfl ?_
      refine wq_iconst q28_106 ?_
      refine wq_isub q28_107 ?_
      rw [e3, e4, nI_m1 (by omega)]
      refine cV (As := [_]) q28_108 m_20 rfl rfl (by first | exact f1 | rfl) ⟨by decide, rfl⟩ rfl (c_thick hF (by omega) ?_)
      refine wq_iload q28_111 rfl ?_
      rw [e3]
      cases hlw : lw with
      | none =>
        subst hlw
        refine wq_aload_nN q28_113 rfl ?_
        refine cV (As := [_, _, _, _]) q28_114 m_29 rfl rfl rfl ⟨by decide, rfl⟩ rfl (c_behind' (lw := none) (hi := hi) (f := f) (v := v) (row := hi r) (S := S) (lo := fr) (hi0 := c) (s := s) (c := c) hw hI' (fun hi2 hI2 => ?_))
        refine sI q28_117 rfl (rfl) (by show c < 7; omega) (by first | decide | omega) rfl ?_
        refine wq_iinc (ls' := [_, _, _, _, _, _, _, _]) q28_118 rfl rfl ?_
        refine wq_goto q28_121 ?_
        rw [nI_1, hpS]
        exact ih (c + 1) _ _ (by omega) (by omega) (hI2.put (hS c hfr (by omega)).symm (fun j h1 h2 => by omega))
      | some la =>
        subst hlw
        refine wq_aload_n q28_113 rfl ?_
        refine cV (As := [_, _, _, _]) q28_114 m_29 rfl rfl rfl ⟨by decide, rfl⟩ rfl (c_behind' (lw := some la) (hi := hi) (f := f) (v := v) (row := hi r) (S := S) (lo := fr) (hi0 := c) (s := s) (c := c) hw hI' (fun hi2 hI2 => ?_))
        refine sI q28_117 rfl (rfl) (by show c < 7; omega) (by first | decide | omega) rfl ?_
        refine wq_iinc (ls' := [_, _, _, _, _, _, _, _]) q28_118 rfl rfl ?_
        refine wq_goto q28_121 ?_
        rw [nI_1, hpS]
        exact ih (c + 1) _ _ (by omega) (by omega) (hI2.put (hS c hfr (by omega)).symm (fun j h1 h2 => by omega))
theorem i32_m1 (x : Int32) : x + -1 = x - 1 := by rw [Int32.sub_eq_add_neg]
theorem c_spread_down {v fr : Nat} {s : Nat → Nat} {S : Nat → Int32} (hf : Fok f) (hs : Sok a r) (hw : Lawk hi lw sz) (hn : n ≤ 7) (hfn : fr < n) (hr : r ∉ scr0) (hsit : ∀ c, c < n → hi r c = nI (s c) ∧ s c < 7) (hS : ∀ c, c < fr → S c = bwC hi f lw sz v (hi r) s c c (S (c + 1)))
    (hQ : ∀ hi', spI hi f v (hi r) S 0 n hi' → Q none (HP hi' hl f dr t)) :
    ∀ (k : Nat) (hi' : Nat → Nat → Int32) (x7 : Option Value), k ≤ fr → spI hi f v (hi r) S k n hi' →
    wq G (0, 0) (d + 4) 28 130 [some (.ref 50), some (.ref f), some (.ref a), some (va_rf lw), some (.int (nI v)), some (.int (nI fr)), some (.int (nI k - 1)), x7] [] (0, 0) (HP hi' hl f dr t) Q := by
  intro k
  induction k with
  | zero =>
    intro hi' x7 hk hI'
    refine wq_iload q28_130 rfl ?_
    refine wq_if_lt q28_132 (fun c132 => ?_) (fun c132 => ?_)
    · refine rV q28_185 ?_
      exact hQ hi' hI'
    · exact absurd (by decide) c132
  | succ k ih =>
    intro hi' x7 hk hI'
    have hF := hf.frt hi' hl f dr t
    obtain ⟨f1, f2, f3, f4, f5, f6, f7⟩ := hf.frt hi' hl f dr t
    obtain ⟨s1, s2, s3, s4⟩ := hs.scn hi' hl f dr t
    have e2 : hI (HP hi' hl f dr t) r k = nI (s k) := by show hi' r k = _; rw [hI'.1 r hr]; exact (hsit k (by omega)).1
    have e3 : hI (HP hi' hl f dr t) (f + 2) = hi (f + 2) := (hI'.fort hf).2.2.1
    have e4 : hI (HP hi' hl f dr t) 51 (k + 1) = S (k + 1) := hI'.2.2 (k + 1) (by omega) (by omega)
    have e5 : nI (k + 1) - 1 = nI k := nI_pred k
    rw [e5]
    refine wq_iload q28_130 rfl ?_
    refine wq_if_lt q28_132 (fun c132 => ?_) (fun c132 => ?_)
    · exact absurd c132 (nI_pos (by omega))
    · refine wq_aload_n q28_135 rfl ?_
      refine wq_aload_n q28_136 rfl ?_
      refine wq_getR q28_137 (by first | exact s1 | exact s2 | exact s3 | rfl) rfl (by first | exact s1 | exact s2 | exact s3 | rfl) ?_
      refine wq_iconst q28_140 ?_
      refine wq_iload q28_141 rfl ?_
      refine wq_iadd q28_143 ?_
      refine aI q28_144 (by first | exact s1 | exact s2 | exact s3 | rfl) ((by rw [show (0 : Int32) = nI 0 from rfl, nI_add, Nat.zero_add])) (by omega) (by first | decide | omega) ?_
      rw [e2]
      refine cV (As := [_]) q28_145 m_21 rfl rfl (by first | exact f1 | rfl) ⟨by decide, rfl⟩ rfl (c_merit hF (hsit k (by omega)).2 ?_)
      refine wq_istore (ls' := [_, _, _, _, _, _, _, _]) q28_148 rfl ?_
      refine wq_aload_n q28_150 rfl ?_
      refine wq_getR q28_151 (by first | exact f1 | rfl) rfl (by first | exact f1 | rfl) ?_
      refine wq_iload q28_154 rfl ?_
      refine wq_aload_n q28_156 rfl ?_
      refine wq_aload_n q28_157 rfl ?_
      refine wq_getR q28_158 (by first | exact f1 | rfl) rfl (by first | exact f1 | rfl) ?_
      refine wq_iload q28_161 rfl ?_
      refine wq_iconst q28_163 ?_
      refine wq_iadd q28_164 ?_
      refine aI q28_165 (by first | exact f1 | rfl) (nI_1 _) (by show k + 1 < 7; omega) (by first | decide | omega) ?_
      refine wq_aload_n q28_166 rfl ?_
      refine wq_iload q28_167 rfl ?_
      rw [e3, e4]
      refine cV (As := [_]) q28_169 m_20 rfl rfl (by first | exact f1 | rfl) ⟨by decide, rfl⟩ rfl (c_thick hF (by omega) ?_)
      refine wq_iload q28_172 rfl ?_
      rw [e3]
      cases hlw : lw with
      | none =>
        subst hlw
        refine wq_aload_nN q28_174 rfl ?_
        refine cV (As := [_, _, _, _]) q28_175 m_29 rfl rfl rfl ⟨by decide, rfl⟩ rfl (c_behind' (lw := none) (hi := hi) (f := f) (v := v) (row := hi r) (S := S) (lo := k + 1) (hi0 := n) (s := s) (c := k) hw hI' (fun hi2 hI2 => ?_))
        refine sI q28_178 rfl (rfl) (by show k < 7; omega) (by first | decide | omega) rfl ?_
        refine wq_iinc (ls' := [_, _, _, _, _, _, _, _]) q28_179 rfl rfl ?_
        refine wq_goto q28_182 ?_
        rw [i32_m1, hpS]
        exact ih _ _ (by omega) (hI2.put (hS k (by omega)).symm (fun j h1 h2 => by omega))
      | some la =>
        subst hlw
        refine wq_aload_n q28_174 rfl ?_
        refine cV (As := [_, _, _, _]) q28_175 m_29 rfl rfl rfl ⟨by decide, rfl⟩ rfl (c_behind' (lw := some la) (hi := hi) (f := f) (v := v) (row := hi r) (S := S) (lo := k + 1) (hi0 := n) (s := s) (c := k) hw hI' (fun hi2 hI2 => ?_))
        refine sI q28_178 rfl (rfl) (by show k < 7; omega) (by first | decide | omega) rfl ?_
        refine wq_iinc (ls' := [_, _, _, _, _, _, _, _]) q28_179 rfl rfl ?_
        refine wq_goto q28_182 ?_
        rw [i32_m1, hpS]
        exact ih _ _ (by omega) (hI2.put (hS k (by omega)).symm (fun j h1 h2 => by omega))
/-- the strengths that a knock of v from fr has -/
def spV (hi : Nat → Nat → Int32) (f : Nat) (lw : Option Nat) (sz v : Nat) (row : Nat → Int32) (s : Nat → Nat) (fr : Nat) : Nat → Int32 := spC (bwC hi f lw sz v row s) fr (hi (f + 1) 1)
theorem spC_up {bw : Nat → Nat → Int32 → Int32} {fr : Nat} {l : Int32} {c : Nat} (h : fr < c) : spC bw fr l c = bw (c - 1) c (spC bw fr l (c - 1)) := by
  unfold spC
  rw [if_pos (by omega), if_pos (by omega), show c - fr = (c - 1 - fr) + 1 by omega, spU, show fr + (c - 1 - fr) = c - 1 by omega, show c - 1 + 1 = c by omega]
theorem spC_down {bw : Nat → Nat → Int32 → Int32} {fr : Nat} {l : Int32} {c : Nat} (h : c < fr) : spC bw fr l c = bw c c (spC bw fr l (c + 1)) := by
  unfold spC
  rw [if_neg (by omega), show fr - c = (fr - (c + 1)) + 1 by omega, spD, show fr - (fr - (c + 1) + 1) = c by omega]
  congr 1
  by_cases h2 : fr ≤ c + 1
  · rw [if_pos h2, show fr - (c + 1) = 0 by omega, show c + 1 - fr = 0 by omega]
    rfl
  · rw [if_neg h2]
theorem c_spread {v fr : Nat} {s : Nat → Nat} (hf : Fok f) (hs : Sok a r) (hw : Lawk hi lw sz) (hn : n ≤ 7) (hv : v < 6) (hfn : fr < n) (hc : hi f 3 = nI n) (hsit : ∀ c, c < n → hi r c = nI (s c) ∧ s c < 7)
    (hQ : ∀ hi', Same scr0 hi hi' → (∀ c, c < n → hi' 51 c = spV hi f lw sz v (hi r) s fr c) → Q none (HP hi' hl f dr t)) : Ct G (0, 0) (d + 4) 28 [.ref 50, .ref f, .ref a, va_rf lw, .int (nI v), .int (nI fr)] (HP hi hl f dr t) Q := by
  have hr : r ∉ scr0 := hs.scr (Or.inr rfl)
  have hF := hf.frt
  have hr53 : r ≠ 53 := fun z => hr (z ▸ by decide)
  have hf1 : f + 1 ≠ 53 ∧ f + 3 ≠ 53 := by rcases hf with rfl | rfl <;> decide
  obtain ⟨f1, f2, f3, f4, f5, f6, f7⟩ := hf.frt hi hl f dr t
  obtain ⟨s1, s2, s3, s4⟩ := hs.scn hi hl f dr t
  refine Ct_of (ls := [some (.ref 50), some (.ref f), some (.ref a), some (va_rf lw), some (.int (nI v)), some (.int (nI fr)), none, none]) m_28.1.2.2.1 (by cases lw <;> exact Nat.le_of_ble_eq_true rfl) (by cases lw <;> rfl) ?_
  have k1 : ∀ (h : ph_H) (i : Nat) (x : Int32), hI (stI h 53 i x) r = hI h r := fun h i x => hI_Co h _ hr53
  have k2 : ∀ (h : ph_H) (i : Nat) (x : Int32), hI (stI h 53 i x) (f + 1) = hI h (f + 1) := fun h i x => hI_Co h _ hf1.1
  refine wq_aload_n q28_0 rfl ?_
  refine wq_getR q28_1 (by first | exact f1 | rfl) rfl (by first | exact f1 | rfl) ?_
  refine wq_iconst q28_4 ?_
  refine wq_aload_n q28_5 rfl ?_
  refine wq_iload q28_6 rfl ?_
  refine cV (As := [_]) q28_8 m_25 rfl rfl (by first | exact f1 | rfl) ⟨by decide, rfl⟩ rfl (c_knocks (by exact hF _ _ _ _ _) hv ?_)
  refine sI q28_11 (by first | exact f1 | rfl) (rfl) (by decide) (by first | decide | omega) (by first | exact f1 | rfl) ?_
  refine wq_aload_n q28_12 rfl ?_
  refine wq_getR q28_13 (by first | exact s1 | exact s2 | exact s3 | rfl) rfl (by first | exact s1 | exact s2 | exact s3 | rfl) ?_
  refine wq_iconst q28_16 ?_
  refine wq_iload q28_17 rfl ?_
  refine sI q28_19 (by first | exact s1 | exact s2 | exact s3 | rfl) (rfl) (by decide) (by first | decide | omega) (by first | exact s1 | exact s2 | exact s3 | rfl) ?_
  refine wq_aload_n q28_20 rfl ?_
  refine wq_getR q28_21 (by first | exact s1 | exact s2 | exact s3 | rfl) rfl (by first | exact s1 | exact s2 | exact s3 | rfl) ?_
  refine wq_iconst q28_24 ?_
  refine wq_aload_n q28_25 rfl ?_
  refine wq_getR q28_26 (by first | exact s1 | exact s2 | exact s3 | rfl) rfl (by first | exact s1 | exact s2 | exact s3 | rfl) ?_
  refine wq_bipush q28_29 ?_
  refine aI q28_31 (by first | exact s1 | exact s2 | exact s3 | rfl) (rfl) (by decide) (by first | decide | omega) ?_
  refine sI q28_32 (by first | exact s1 | exact s2 | exact s3 | rfl) (rfl) (by decide) (by first | decide | omega) (by first | exact s1 | exact s2 | exact s3 | rfl) ?_
  refine wq_aload_n q28_33 rfl ?_
  refine wq_getR q28_34 (by first | exact s1 | exact s2 | exact s3 | rfl) rfl (by first | exact s1 | exact s2 | exact s3 | rfl) ?_
  refine wq_iconst q28_37 ?_
  refine wq_aload_n q28_38 rfl ?_
  refine wq_getR q28_39 (by first | exact s1 | exact s2 | exact s3 | rfl) rfl (by first | exact s1 | exact s2 | exact s3 | rfl) ?_
  refine wq_bipush q28_42 ?_
  refine aI q28_44 (by first | exact s1 | exact s2 | exact s3 | rfl) (rfl) (by decide) (by first | decide | omega) ?_
  refine sI q28_45 (by first | exact s1 | exact s2 | exact s3 | rfl) (rfl) (by decide) (by first | decide | omega) (by first | exact s1 | exact s2 | exact s3 | rfl) ?_
  refine wq_aload_n q28_46 rfl ?_
  refine wq_getR q28_47 (by first | exact f1 | rfl) rfl (by first | exact f1 | rfl) ?_
  refine wq_iload q28_50 rfl ?_
  refine wq_aload_n q28_52 rfl ?_
  refine cV (As := []) q28_53 m_17 rfl rfl (by first | exact f1 | rfl) ⟨by decide, rfl⟩ rfl (c_loud (by exact hF hi hl f dr t) ?_)
  refine sI q28_56 (by first | exact f1 | rfl) (rfl) (by show fr < 7; omega) (by first | decide | omega) (by first | exact f1 | rfl) ?_
  simp only [k1, k2]
  refine wq_iload q28_57 rfl ?_
  refine wq_iconst q28_59 ?_
  refine wq_iadd q28_60 ?_
  refine wq_istore (ls' := [_, _, _, _, _, _, _, _]) q28_61 rfl ?_
  rw [nI_1]
  refine c_spread_up (S := spV hi f lw sz v (hi r) s fr) (s := s) hf hs hw hn hc hr hsit (fun c h1 _ => spC_up h1) (fun hi' x6 x7 hI' => ?_) (n - (fr + 1)) (fr + 1) _ none (by omega) (by omega) ?_
  · refine wq_iload q28_124 rfl ?_
    refine wq_iconst q28_126 ?_
    refine wq_isub q28_127 ?_
    refine wq_istore (ls' := [_, _, _, _, _, _, _, _]) q28_128 rfl ?_
    exact c_spread_down hf hs hw hn hfn hr hsit (fun c h1 => spC_down h1) (fun hi2 hI2 => hQ hi2 hI2.1 (fun c hc => hI2.2.2 c (by omega) hc)) fr hi' _ (by omega) hI'
  · refine spI.put (lo := 0) (hi0 := 0) (c := fr) ?_ ?_ (fun j h1 h2 => by omega)
    · refine ⟨?_, fun j h1 h2 h3 => ?_, fun c h1 h2 => by omega⟩
      · intro b hb
        have hb53 : b ≠ 53 := fun z => hb (by rw [z]; decide)
        show up2 (up2 (up2 (up2 hi 53 1 _) 53 3 _) 53 4 _) 53 5 _ b = _
        rw [up2_o _ _ _ hb53, up2_o _ _ _ hb53, up2_o _ _ _ hb53, up2_o _ _ _ hb53]
      · have : j = 1 ∨ j = 3 ∨ j = 4 ∨ j = 5 := by omega
        rcases this with rfl | rfl | rfl | rfl <;> rfl
    · show _ = spC _ fr _ fr
      unfold spC
      rw [if_pos (Nat.le_refl _), Nat.sub_self]
      rfl
end KNOCK
