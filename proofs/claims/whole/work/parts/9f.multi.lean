/-! DAYS, YEARS, PLANS on both sides -/
def sA : List Nat := 45 :: 48 :: 49 :: 52 :: 39 :: scr0
theorem FLs.tr {f : Nat} {lw : Option Nat} {h0 h1 h2 : Nat → Nat → Int32} (a : FLs f lw h0 h1) (b : FLs f lw h1 h2) : FLs f lw h0 h2 := ⟨b.1.trans a.1, b.2.1.trans a.2.1, b.2.2.1.trans a.2.2.1, b.2.2.2.1.trans a.2.2.2.1, fun x hx => ⟨((b.2.2.2.2 x hx).1).trans (a.2.2.2.2 x hx).1, ((b.2.2.2.2 x hx).2).trans (a.2.2.2.2 x hx).2⟩⟩
section SIMM
variable {G : ph_G} {d f dr t n ev wi nx kp dy sa L lc pc kr sz : Nat} {ar : List Value} {hi hi' hi1 hi2 hc hr hc' hr' h0 : Nat → Nat → Int32} {hl : Nat → Nat → Int64} {Q : Option Value → ph_H → Prop} {lw : Option Nat}
theorem JA.mvr (h : JA hc hr f dr n ev wi nx kp dy sa L lc pc) (hs : RS hr hr') : JA hc hr' f dr n ev wi nx kp dy sa L lc pc := ⟨h.1.mv CMo.rf hs.mo, h.2.mv rfl rfl rfl rfl (hs.1 71 (by decide)) (hs.1 74 (by decide)) (hs.2.1 38 (by decide))⟩
theorem DaysB.same : ∀ (N : Nat) (c c' : Nat → Nat → Int32), DaysB N c c' → Same sA c c' := by
  intro N
  induction N with
  | zero => intro c c' h; rw [show c' = c from h]; exact Same.rf
  | succ N ih =>
    intro c c' h
    obtain ⟨c1, nx, kp, dy, -, -, -, hp, hd⟩ := h
    exact Same.tr hp.2.2.2.2 (ih c1 c' hd)
theorem RDy.cl : ∀ (N : Nat) (row : Nat → Int32) (r r' : Nat → Nat → Int32), RDy n N row r r' → ∀ a, a < 58 → r' a = r a := by
  intro N
  induction N with
  | zero => intro row r r' h a _; rw [show r' = r from h]
  | succ N ih =>
    intro row r r' h a ha
    obtain ⟨r1, b, -, -, hs, hd⟩ := h
    rw [ih _ _ _ hd a ha, hs.1.1.cl a ha]
theorem days_J : ∀ (N : Nat) (c r c' r' : Nat → Nat → Int32) (nx kp dy : Nat), JA c r f dr n ev wi nx kp dy sa L lc pc → dy + N ≤ 9999 → DaysB N c c' → RDy n N (c 39) r r' → ∃ nx' kp', JA c' r' f dr n ev wi nx' kp' (dy + N) sa L lc pc := by
  intro N
  induction N with
  | zero =>
    intro c r c' r' nx kp dy h _ hD hR
    rw [show c' = c from hD, show r' = r from hR]
    exact ⟨nx, kp, h⟩
  | succ N ih =>
    intro c r c' r' nx kp dy h hdy hD hR
    obtain ⟨c1, nx1, kp1, dy1, hac, e32, hdy1, hp, hd⟩ := hD
    obtain ⟨r1, a, e38, ha, hs, hR⟩ := hR
    obtain rfl := nI_j h.2.1.1 hac.1 h.2.1.2.1 hac.2.1 (by decide)
    obtain rfl := nI_j (m := 41) h.2.1.2.2.1 hac.2.2.1 (by have := h.2.1.2.2.2; omega) (by have := hac.2.2.2; omega) (by decide)
    have ed := h.2.2.2.1.2.2.2.1
    obtain rfl := nI_j (m := 10000) ed e32 (by omega) (by omega) (by decide)
    obtain rfl := nI_j (m := 41) h.2.2.1 e38 (by have := h.2.1.2.2.2; omega) (by omega) (by decide)
    have h1 := h.step (CStep.of_day hp) hs ed h.2.2.2.1.2.2.1 (fun _ => by omega)
    rw [if_pos rfl] at h1
    obtain ⟨nx', kp', h2⟩ := ih c1 r1 c' r' _ _ (dy + 1) h1 (by omega) hd (by rw [hp.1]; exact hR)
    exact ⟨nx', kp', by rw [show dy + (N + 1) = dy + 1 + N by omega]; exact h2⟩
theorem spB_eq {x : Int32} (e3 : hi f 3 = nI n) : spB hi f x = spB' (nI n) (hi 39 32) x := by unfold spB spB'; rw [e3]
theorem s_days {x : Int32} (h : JA hi hi f dr n ev wi nx kp dy sa L lc pc) : Sim G (d + 40) 114 [.ref 0, .int x] 242 [.ref 58, .int x] hi hl f dr t := by
  intro Q hQ
  obtain ⟨hf, hn7, hev6, e3, e4, e26, e27, e0⟩ := h.nn
  rcases Nat.eq_zero_or_pos n with hn | hn
  · obtain ⟨z3, z4, z26, z27, -⟩ := h.none hn
    exact c_days0 hf z3 (qq h hQ Same.rf (fun Q2 h2 => c_rdays0 z26 (h2 _ _ rs0)))
  · obtain ⟨lw, sz, hF, hO, hk, hn2, hev1⟩ := h.fort hn
    obtain ⟨hw, hkn, hrk, h33, h32, hdy⟩ := h.rw
    have es := spB_eq (x := x) e3
    refine c_daysB hO (fun z => qq h hQ Same.rf (fun Q2 h2 => c_rdays (lg := min dy 60) hF hw hkn h.2.1.2.2.2 h.2.2.1 (by omega) h33 (fun _ => h2 _ _ rs0) (fun N _ _ z' => absurd z' (by rw [← es, z]; decide)))) (fun N ex hN hsum z hi1 hD => hQ _ _ _ _ _ _ (fun Q2 h2 => ?_))
    have hsm : Same sA hi hi1 := DaysB.same N hi hi1 hD
    obtain ⟨hF1, hfl, hw1, hk1, h331, hlg, h381, hkp⟩ := h.at2 hF hk hsm
    refine c_rdays hF1 hw1 hk1 hkp h381 hlg h331 (fun z' => absurd z (by rw [es, z']; decide)) (fun N' ex' hN' z' hi2 hR => ?_)
    obtain rfl := nI_j (m := 61) ex' ex (by omega) (by omega) (by decide)
    obtain ⟨nx', kp', h3⟩ := days_J N' hi (up2 hi1 58 0 0) hi1 hi2 nx kp dy ((h.mv (fun _ _ => rfl) (act_ge hsm)).mvr rs0) hsum hD hR
    have e := h2 hi2 hl t ⟨n, ev, wi, nx', kp', dy + N', sa, L, lc, pc, h3.mv (fun a ha => by rw [RDy.cl N' _ _ _ hR a ha, up2_o _ _ _ (by omega)]) (fun _ _ => rfl)⟩
    rw [← h3.2.2.2.1.1.2.2.2.2.2.2.2.2] at e
    exact e
/-! years -/
theorem YrB.same : ∀ (N : Nat) (c c' : Nat → Nat → Int32) (x x' : Int64), YrB f lw sz n ev wi N c x c' x' → Same sA c c' := by
  intro N
  induction N with
  | zero => intro c c' x x' h; rw [show c' = c from h.1]; exact Same.rf
  | succ N ih =>
    intro c c' x x' h
    obtain ⟨c1, nx, kp, dy, -, -, -, hp, hd⟩ := h
    exact Same.tr hp.2.2.2.2 (ih c1 c' _ x' hd)
theorem RYr.cl {gu : Int32} : ∀ (N : Nat) (row : Nat → Int32) (x : Int64) (r r' : Nat → Nat → Int32), RYr f lw sz n ev wi gu N row x r r' → ∀ a, a < 58 → r' a = r a := by
  intro N
  induction N with
  | zero => intro row x r r' h a _; rw [show r' = r from h]
  | succ N ih =>
    intro row x r r' h a ha
    obtain ⟨r1, b, -, -, hs, hd⟩ := h
    rw [ih _ _ _ _ hd a ha, hs.1.1.cl a ha]
theorem de_rw {ch : Nat → Int32} (hn : n ≤ 7) : ∀ (m e : Nat) (x : (Nat → Int32) × Int64) (w : Nat → Int32), RW n x.1 w → ∃ w', RW n (deR ch m e x).1 w' := by
  intro m
  induction m with
  | zero => intro e x w h; exact ⟨w, h⟩
  | succ m ih =>
    intro e x w h
    obtain ⟨w', h'⟩ : ∃ w', RW n (deS ch e x).1 w' := by
      unfold deS
      split
      · exact ⟨w, h⟩
      · split
        · exact ⟨_, h.see hn _⟩
        · exact ⟨w, h⟩
    exact ih (e + 1) (deS ch e x) w' h'
theorem dd_ok {row w : Nat → Int32} {x : Int64} {gu : Int32} (hF : RF h0 f lw sz n ev wi) (hw : RW n row w) (hr : ROk n row) (hd : row 32 = nI dy) (hdy : dy ≤ 9999) : (ddR h0 f lw sz n ev wi gu (row, x)).1 32 = nI dy ∧ ROk n (ddR h0 f lw sz n ev wi gu (row, x)).1 := by
  have hn7 := hF.2.1.1
  obtain ⟨w1, hw1⟩ := de_rw (ch := fun e => h0 (f + 3) (e * 2 + 1)) hn7 ev 0 (row, x) w hw
  have k1 : ∀ j, j ≠ 28 → (deR (fun e => h0 (f + 3) (e * 2 + 1)) ev 0 (row, x)).1 j = row j := fun j hj => deR_32 hj ev 0 (row, x)
  unfold ddR
  generalize (deR (fun e => h0 (f + 3) (e * 2 + 1)) ev 0 (row, x)).2 = x1
  generalize (deR (fun e => h0 (f + 3) (e * 2 + 1)) ev 0 (row, x)).1 = row1 at hw1 k1 ⊢
  have hr1 : ROk n row1 := hr.ext (fun p _ => k1 _ (by omega)) (k1 31 (by decide))
  have hd1 : row1 32 = nI dy := (k1 32 (by decide)).trans hd
  have h2 := d2R_ok (lw := lw) (sz := sz) hF.2.1 (hw1.sit hn7) hd1 hdy
  have hr2 : ROk n (d2R h0 f lw sz n ev wi row1) := by
    unfold d2R
    split
    · rename_i hcb
      exact chg_rok hF hw1 hr1 hcb
    · exact hr1
  show d3R h0 f n wi gu (nxX x1) (d2R h0 f lw sz n ev wi row1) 32 = nI dy ∧ ROk n (d3R h0 f n wi gu (nxX x1) (d2R h0 f lw sz n ev wi row1))
  generalize d2R h0 f lw sz n ev wi row1 = row2 at h2 hr2 ⊢
  have e2 : row2 32 = nI dy := h2.2.trans hd1
  unfold d3R
  split
  · exact ⟨(swR_high hn7 (by decide)).trans e2, hr2.ext (fun p _ => swR_high hn7 (by omega)) (swR_high hn7 (by decide))⟩
  · exact ⟨e2, hr2⟩
theorem years_J (hF : RF h0 f lw sz n ev wi) (hlk : Lawk h0 lw sz) {gu : Int32} : ∀ (N : Nat) (c r c' r' : Nat → Nat → Int32) (x x' : Int64) (nx kp dy : Nat), JA c r f dr n ev wi nx kp dy sa L lc pc → Same sA h0 c → RF r f lw sz n ev wi → FLs f lw h0 r → c 0 8 = gu → dy + N ≤ 9999 → YrB f lw sz n ev wi N c x c' x' → RYr f lw sz n ev wi gu N (c 39) x r r' → ∃ nx' kp', JA c' r' f dr n ev wi nx' kp' (dy + N) sa L lc pc := by
  intro N
  induction N with
  | zero =>
    intro c r c' r' x x' nx kp dy h _ _ _ _ _ hD hR
    rw [show c' = c from hD.1, show r' = r from hR]
    exact ⟨nx, kp, h⟩
  | succ N ih =>
    intro c r c' r' x x' nx kp dy h hsc hFr hflr hgu hdy hD hR
    obtain ⟨c1, nx1, kp1, dy1, hac, e32, hdy1, hp, hd⟩ := hD
    obtain ⟨r1, a, e38, ha, hs, hR⟩ := hR
    obtain rfl := nI_j h.2.1.1 hac.1 h.2.1.2.1 hac.2.1 (by decide)
    obtain rfl := nI_j (m := 41) h.2.1.2.2.1 hac.2.2.1 (by have := h.2.1.2.2.2; omega) (by have := hac.2.2.2; omega) (by decide)
    have ed := h.2.2.2.1.2.2.2.1
    obtain rfl := nI_j (m := 10000) ed e32 (by omega) (by omega) (by decide)
    obtain rfl := nI_j (m := 41) h.2.2.1 e38 (by have := h.2.1.2.2.2; omega) (by omega) (by decide)
    have hflc : FLs f lw h0 c := FLs_of hF.1 hlk hsc (by decide)
    rw [hgu, ddR_congr hflc] at hp hd
    rw [ddR_congr hflr] at hs hR
    obtain ⟨k1, k2⟩ := dd_ok (x := x) (gu := gu) hF h.2.2.2.1.1 h.2.2.2.1.2.2.1 ed (by omega)
    have h1 := h.step (CStep.of_yr hp) hs k1 k2 (fun _ => by omega)
    rw [if_pos rfl] at h1
    obtain ⟨nx', kp', h2⟩ := ih c1 r1 c' r' _ x' _ _ (dy + 1) h1 (Same.tr hsc hp.2.2.2.2) (hs.1.1.mv hFr) (hflr.tr (hs.1.1.fl hFr)) (by rw [hp.2.2.2.2 0 (by decide)]; exact hgu) (by omega) hd (by rw [hp.1]; exact hR)
    exact ⟨nx', kp', by rw [show dy + (N + 1) = dy + 1 + N by omega]; exact h2⟩
theorem s_years {x : Int32} {sd : Int64} (h : JA hi hi f dr n ev wi nx kp dy sa L lc pc) : Sim G (d + 40) 115 [.ref 0, .int x, .long sd] 245 [.ref 58, .int x, .long sd] hi hl f dr t := by
  intro Q hQ
  obtain ⟨hf, hn7, hev6, e3, e4, e26, e27, e0⟩ := h.nn
  rcases Nat.eq_zero_or_pos n with hn | hn
  · obtain ⟨z3, z4, z26, z27, -⟩ := h.none hn
    exact c_years0 hf z3 (qq h hQ Same.rf (fun Q2 h2 => c_ryears0 z26 (h2 _ _ rs0)))
  · obtain ⟨lw, sz, hF, hO, hk, hn2, hev1⟩ := h.fort hn
    obtain ⟨hw, hkn, hrk, h33, h32, hdy⟩ := h.rw
    have es := spB_eq (x := x) e3
    refine c_yearsB hO hk.2.2.2.2 (fun z => qq h hQ Same.rf (fun Q2 h2 => c_ryears (lg := min dy 60) hF hn2 rfl hw hkn h.2.1.2.2.2 h.2.2.1 (by omega) h33 (fun _ => h2 _ _ rs0) (fun N _ _ z' => absurd z' (by rw [← es, z]; decide)))) (fun N ex hN hsum z hi1 x1 hD => hQ _ _ _ _ _ _ (fun Q2 h2 => ?_))
    have hsm : Same sA hi hi1 := YrB.same N hi hi1 _ _ hD
    obtain ⟨hF1, hfl, hw1, hk1, h331, hlg, h381, hkp⟩ := h.at2 hF hk hsm
    refine c_ryears (gu := hi 0 8) hF1 hn2 (by rw [act_ge hsm 58 (by decide)]; exact h.1.2.1) hw1 hk1 hkp h381 hlg h331 (fun z' => absurd z (by rw [es, z']; decide)) (fun N' ex' hN' z' hi2 t2 x2 hR => ?_)
    obtain rfl := nI_j (m := 61) ex' ex (by omega) (by omega) (by decide)
    obtain ⟨nx', kp', h3⟩ := years_J hF hk.2.1 N' hi (up2 hi1 58 0 0) hi1 hi2 _ _ nx kp dy ((h.mv (fun _ _ => rfl) (act_ge hsm)).mvr rs0) Same.rf (rs0.mv hF1) (hfl.tr (rs0.fl hF1)) rfl hsum hD hR
    have e := h2 hi2 (up2 (up2 hl 0 19 x1) 58 39 x2) t2 ⟨n, ev, wi, nx', kp', dy + N', sa, L, lc, pc, h3.mv (fun a ha => by rw [RYr.cl N' _ _ _ _ hR a ha, up2_o _ _ _ (by omega)]) (fun _ _ => rfl)⟩
    rw [← h3.2.2.2.1.1.2.2.2.2.2.2.2.2] at e
    exact e
/-! plans -/
theorem PfR.same {P : Nat → Int32} : ∀ (m i : Nat) (c c' : Nat → Nat → Int32) (i' : Nat), PfR f lw sz n ev wi P m i c i' c' → Same sA c c' := by
  intro m
  induction m with
  | zero => intro i c c' i' h; rw [show c' = c from h.2]; exact Same.rf
  | succ m ih =>
    intro i c c' i' h
    rcases h with ⟨-, -, e⟩ | ⟨-, c1, nx, kp, dy, -, -, -, hp, hd⟩
    · rw [e]; exact Same.rf
    · exact Same.tr hp.2.2.2.2 (ih (i + 1) c1 c' i' hd)
theorem RPf.cl {P : Nat → Int32} : ∀ (m i : Nat) (row : Nat → Int32) (r r' : Nat → Nat → Int32) (i' : Nat), RPf f lw sz n ev wi P m i row r i' r' → ∀ a, a < 58 → r' a = r a := by
  intro m
  induction m with
  | zero => intro i row r r' i' h a _; rw [show r' = r from h.2]
  | succ m ih =>
    intro i row r r' i' h a ha
    rcases h with ⟨-, -, e⟩ | ⟨-, r1, b, -, -, hs, hd⟩
    · rw [e]
    · rw [ih _ _ _ _ _ hd a ha, hs.1.1.cl a ha]
theorem chg_4 {row : Nat → Int32} {s : Nat → Nat} {fi se : Int32} : chg h0 f lw sz n ev s wi row 4 fi se = edR row := by
  unfold chg
  rw [if_neg (by decide), if_neg (by decide), if_neg (by decide), if_neg (by decide)]
theorem can_4 {row : Nat → Int32} {fi se : Int32} (h : canB h0 f row n 4 fi se = true) (hd : row 32 = nI dy) (hdy : dy ≤ 9999) : dy < 9999 := by
  unfold canB at h
  rw [if_neg (by decide), if_neg (by decide), if_neg (by decide), if_neg (by decide)] at h
  have h1 : row 32 < 9999 := by
    rw [Bool.and_eq_true] at h
    exact of_decide_eq_true h.2
  rw [hd, show (9999 : Int32) = nI 9999 from rfl, nI_ltI (by omega) (by omega)] at h1
  exact h1
theorem perf_J (hF : RF h0 f lw sz n ev wi) (hlk : Lawk h0 lw sz) {st : Nat} {P P2 : Nat → Int32} (hok : PLok st P) (hPP : ∀ j, j < st * 3 → P2 j = P j) : ∀ (m i : Nat) (c r c' r' : Nat → Nat → Int32) (i1 i2 nx kp dy : Nat), i + m ≤ st → JA c r f dr n ev wi nx kp dy sa L lc pc → Same sA h0 c → RF r f lw sz n ev wi → FLs f lw h0 r → PfR f lw sz n ev wi P m i c i1 c' → RPf f lw sz n ev wi P2 m i (c 39) r i2 r' → i2 = i1 ∧ ∃ nx' kp' dy', JA c' r' f dr n ev wi nx' kp' dy' sa L lc pc := by
  intro m
  induction m with
  | zero =>
    intro i c r c' r' i1 i2 nx kp dy _ h _ _ _ hD hR
    rw [hD.2, hR.2, hD.1, hR.1]
    exact ⟨rfl, nx, kp, dy, h⟩
  | succ m ih =>
    intro i c r c' r' i1 i2 nx kp dy him h hsc hFr hflr hD hR
    have hflc : FLs f lw h0 c := FLs_of hF.1 hlk hsc (by decide)
    obtain ⟨p0, p1, p2⟩ : P2 (i * 3 + 0) = P (i * 3 + 0) ∧ P2 (i * 3 + 1) = P (i * 3 + 1) ∧ P2 (i * 3 + 2) = P (i * 3 + 2) := ⟨hPP _ (by omega), hPP _ (by omega), hPP _ (by omega)⟩
    have hkd := hok i (by omega)
    rw [show i * 3 = i * 3 + 0 from rfl] at hkd
    unfold PfR at hD
    unfold RPf at hR
    rw [p0, p1, p2] at hR
    generalize P (i * 3 + 0) = kd at hkd hD hR
    generalize P (i * 3 + 1) = fi at hD hR
    generalize P (i * 3 + 2) = se at hD hR
    rw [canB_congr hflr] at hR
    rw [canB_congr hflc] at hD
    rcases hD with ⟨hb, e1, e2⟩ | ⟨hb, c1, nx1, kp1, dy1, hac, e32, hdy1, hp, hd⟩
    · rcases hR with ⟨-, e3, e4⟩ | ⟨hb', -⟩
      · rw [e1, e2, e3, e4]
        exact ⟨rfl, nx, kp, dy, h⟩
      · rw [hb] at hb'; cases hb'
    · rcases hR with ⟨hb', -⟩ | ⟨-, r1, a, e38, ha, hs, hR⟩
      · rw [hb] at hb'; cases hb'
      · obtain rfl := nI_j h.2.1.1 hac.1 h.2.1.2.1 hac.2.1 (by decide)
        obtain rfl := nI_j (m := 41) h.2.1.2.2.1 hac.2.2.1 (by have := h.2.1.2.2.2; omega) (by have := hac.2.2.2; omega) (by decide)
        have ed := h.2.2.2.1.2.2.2.1
        have hdy := h.2.2.2.1.2.2.2.2.1
        obtain rfl := nI_j (m := 10000) ed e32 (by omega) (by omega) (by decide)
        obtain rfl := nI_j (m := 41) h.2.2.1 e38 (by have := h.2.1.2.2.2; omega) (by omega) (by decide)
        unfold actQ at hp
        rw [chg_congr hflc] at hp
        rw [chg_congr hflr] at hs hR
        have hw := h.2.2.2.1.1
        have hn7 := hF.2.1.1
        have hsw := (hw.s hn7 hF.2.1.2.2.2.1).1
        have key : ∃ log dy', JA c1 r1 f dr n ev wi ((nx + 1) % 40) (min (kp + 1) 40) (if log = true then dy' + 1 else dy') sa L lc pc := by
          by_cases h4 : kd = 4
          · subst h4
            rw [chg_4, decide_eq_true rfl] at hp
            rw [if_pos rfl, decide_eq_true rfl] at hs
            exact ⟨true, dy, h.step (CStep.of_day hp) hs ed h.2.2.2.1.2.2.1 (fun _ => can_4 hb ed hdy)⟩
          · rw [decide_eq_false h4] at hp
            rw [if_neg h4, decide_eq_false h4] at hs
            exact ⟨false, dy, h.step (CStep.of_act hp) hs ((chg_32 hn7 (by omega) h4 hkd).trans ed) (chg_rok hF hw h.2.2.2.1.2.2.1 hb) (fun z => by cases z)⟩
        obtain ⟨log, dy', h1⟩ := key
        exact ih (i + 1) c1 r1 c' r' i1 i2 _ _ _ (by omega) h1 (Same.tr hsc hp.2.2.2.2) (hs.1.1.mv hFr) (hflr.tr (hs.1.1.fl hFr)) hd (by rw [hp.1]; exact hR)
theorem s_perform {x : Int32} (h : JA hi hi f dr n ev wi nx kp dy sa L lc pc) : Sim G (d + 40) 128 [.ref 0, .int x] 253 [.ref 58, .int x] hi hl f dr t := by
  intro Q hQ
  obtain ⟨hf, hn7, hev6, e3, e4, e26, e27, e0⟩ := h.nn
  rcases Nat.eq_zero_or_pos n with hn | hn
  · obtain ⟨z3, z4, z26, z27, -⟩ := h.none hn
    exact c_perform0 hf z3 (qq h hQ Same.rf (fun Q2 h2 => c_rperform0 z26 (h2 _ _ rs0)))
  · obtain ⟨lw, sz, hF, hO, hk, hn2, hev1⟩ := h.fort hn
    obtain ⟨hw, hkn, hrk, h33, h32, hdy⟩ := h.rw
    obtain ⟨p1, p2, p3, p4⟩ := h.1.2.2.2.2.1
    have hst : ∀ k, k < pc → ∃ st P, PlK hi k st P := fun k hk => by obtain ⟨st, a, -⟩ := p4 k hk; exact ⟨st, _, a⟩
    have hpl : ∀ k, k < pc → ∃ st P, PlR hi k st P := fun k hk => by obtain ⟨st, -, a⟩ := p4 k hk; exact ⟨st, _, a⟩
    refine c_perform hO hk.2.2.2.2 p2 p1 hst (fun z => qq h hQ Same.rf (fun Q2 h2 => c_rperform (lg := min dy 60) hF hw hkn h.2.1.2.2.2 h.2.2.1 (by omega) h33 p3 p1 hpl (fun _ => h2 _ _ rs0) (fun k _ _ _ _ _ hk' ex _ _ => absurd (show inB x (hi 0 7) = true by rw [p2, ex]; exact inB_y hk' (by omega)) (by rw [z]; decide)))) (fun k st P i1 hi1 hk' ex hP hD => hQ _ _ _ _ _ _ (fun Q2 h2 => ?_))
    have hsm : Same sA hi hi1 := PfR.same st 0 hi hi1 i1 hD
    have g := act_ge hsm
    obtain ⟨hF1, hfl, hw1, hk1, h331, hlg, h381, hkp⟩ := h.at2 hF hk hsm
    have hpl1 : ∀ k, k < pc → ∃ st P, PlR hi1 k st P := fun k hk => by obtain ⟨st, P, a⟩ := hpl k hk; exact ⟨st, P, a.mv (fun j _ => by rw [g 70 (by decide)]) (fun j _ => by rw [g 69 (by decide)])⟩
    refine c_rperform hF1 hw1 hk1 hkp h381 hlg h331 (by rw [g 58 (by decide)]; exact p3) p1 hpl1 (fun z => absurd (show inB x (nI pc) = true by rw [ex]; exact inB_y hk' (by omega)) (by rw [z]; decide)) (fun k2 st2 P2 i2 hi2 t2 hk2 exx hP2 hR => ?_)
    obtain rfl := nI_j exx ex hk2 hk' (by omega)
    obtain ⟨st0, a0, b0⟩ := p4 k2 hk2
    have hst0 := a0.2.1
    have hst1 := hP.2.1
    have hst2 := hP2.2.1
    obtain rfl : st = st0 := (nI_eq (by omega) (by omega)).mp (hP.2.2.1.symm.trans a0.2.2.1)
    obtain rfl : st2 = st := by
      have e1 := hP2.2.2.1
      rw [g 70 (by decide), b0.2.2.1] at e1
      exact (nI_eq (by omega) (by omega)).mp e1.symm
    have eP : ∀ j, j < st2 * 3 → P2 j = P j := fun j hj => by
      have e1 := hP2.2.2.2.1 j hj
      rw [g 69 (by decide), b0.2.2.2.1 j hj, hP.2.2.2] at e1
      exact e1.symm
    have hok : PLok st2 P := by
      have := b0.2.2.2.2
      rw [hP.2.2.2] at this
      exact this
    obtain ⟨rfl, nx', kp', dy', h3⟩ := perf_J hF hk.2.1 hok eP st2 0 hi (up2 hi1 58 0 0) hi1 hi2 i1 i2 nx kp dy (by omega) ((h.mv (fun _ _ => rfl) g).mvr rs0) Same.rf (rs0.mv hF1) (hfl.tr (rs0.fl hF1)) hD hR
    exact h2 hi2 hl t2 ⟨n, ev, wi, nx', kp', dy', sa, L, lc, pc, h3.mv (fun a ha => by rw [RPf.cl st2 0 _ _ _ _ hR a ha, up2_o _ _ _ (by omega)]) (fun _ _ => rfl)⟩
end SIMM
