/-! QUESTIONS, more -/
theorem rnR_congr {hi hi' : Nat → Nat → Int32} {f : Nat} {lw : Option Nat} (h : FLs f lw hi hi') {sz n ev wi : Nat} {P : Nat → Int32} : ∀ (m i : Nat) (row : Nat → Int32), rnR hi' f lw sz n ev wi P m i row = rnR hi f lw sz n ev wi P m i row := by
  intro m
  induction m with
  | zero => intro i row; rfl
  | succ m ih =>
    intro i row
    unfold rnR
    rw [canB_congr h, chg_congr h, ih]
theorem suR_congr {b b' : Nat → Int32} {N : Nat} (h : ∀ j, j < N → b j = b' j) : ∀ (m p : Nat) (s : Int32), p + m ≤ N → suR b m p s = suR b' m p s := by
  intro m
  induction m with
  | zero => intro p s _; rfl
  | succ m ih =>
    intro p s hp
    unfold suR
    rw [h p (by omega), ih _ _ (by omega)]
theorem cdB_0 {v : Int32} : cdB 0 v = false := by simp [cdB]
theorem hbV_congr {hi hi' : Nat → Nat → Int32} {f : Nat} {lw : Option Nat} (h : FLs f lw hi hi') {sz n ev wi : Nat} {row : Nat → Int32} : hbV hi' f lw sz n ev wi row = hbV hi f lw sz n ev wi row := by unfold hbV; rw [taR_congr h, h.2.1]
theorem spV_fl {hi hi' : Nat → Nat → Int32} {f : Nat} {lw : Option Nat} (h : FLs f lw hi hi') {sz v fr : Nat} {row : Nat → Int32} {s : Nat → Nat} : spV hi' f lw sz v row s fr = spV hi f lw sz v row s fr := spV_congr h.2.1 h.2.2.1 h.2.2.2.1 (fun a ha => (h.2.2.2.2 a ha).2)
section SIMQ2
variable {G : ph_G} {d f dr t n ev wi nx kp dy sa L lc pc kr sz : Nat} {ar : List Value} {hi hi' hi1 : Nat → Nat → Int32} {hl : Nat → Nat → Int64} {Q : Option Value → ph_H → Prop} {lw : Option Nat}
theorem s_far {x y : Int32} (h : JA hi hi f dr n ev wi nx kp dy sa L lc pc) : Sim G (d + 40) 131 [.ref 0, .int x, .int y] 254 [.ref 58, .int x, .int y] hi hl f dr t := by
  intro Q hQ
  obtain ⟨hf, hn7, hev6, e3, e4, e26, e27, e0⟩ := h.nn
  rcases Nat.eq_zero_or_pos n with hn | hn
  · obtain ⟨z3, z4, z26, z27, -⟩ := h.none hn
    exact c_far0 hf z4 (qq h hQ Same.rf (fun Q2 h2 => c_rfar0 z27 (h2 _ _ rs0)))
  · obtain ⟨lw, sz, hF, hO, hk, hn2, hev1⟩ := h.fort hn
    obtain ⟨hw, hkn, hrk, h33, h32, hdy⟩ := h.rw
    refine c_far hf hk.2.1 hk.2.2.1 hk.2.2.2.1 hk.2.2.2.2.si (fun z => qq h hQ Same.rf (fun Q2 h2 => c_rfar hF hw (fun _ => h2 _ _ rs0) (fun v c _ _ hv ex hc ey _ => absurd ⟨by rw [e4, ex]; exact inB_y hv (by omega), by rw [e3, ey]; exact inB_y hc (by omega)⟩ z))) (fun v c hi1 hv ex hc ey hs => qq h hQ hs.s01 (fun Q2 h2 => ?_))
    obtain ⟨hF1, hfl, hw1, hk1, h331, hlg⟩ := h.at1 hF hk hs.s01
    refine c_rfar hF1 hw1 (fun z => absurd ⟨by rw [ex]; exact inB_y hv (by omega), by rw [ey]; exact inB_y hc (by omega)⟩ z) (fun v' c' hi2 t2 hv' ex' hc' ey' hrs => ?_)
    obtain rfl := nI_j ex' ex hv' hv (by omega)
    obtain rfl := nI_j ey' ey hc' hc (by omega)
    rw [spV_fl hfl]
    exact h2 _ _ hrs
theorem s_wall {x y : Int32} (h : JA hi hi f dr n ev wi nx kp dy sa L lc pc) : Sim G (d + 40) 132 [.ref 0, .int x, .int y] 255 [.ref 58, .int x, .int y] hi hl f dr t := by
  intro Q hQ
  obtain ⟨hf, hn7, hev6, e3, e4, e26, e27, e0⟩ := h.nn
  rcases Nat.eq_zero_or_pos n with hn | hn
  · obtain ⟨z3, z4, z26, z27, -⟩ := h.none hn
    exact c_wall0 hf z4 (qq h hQ Same.rf (fun Q2 h2 => c_rwall0 z27 (h2 _ _ rs0)))
  · obtain ⟨lw, sz, hF, hO, hk, hn2, hev1⟩ := h.fort hn
    obtain ⟨hw, hkn, hrk, h33, h32, hdy⟩ := h.rw
    refine c_wall hk (fun z => qq h hQ Same.rf (fun Q2 h2 => c_rwall hF hw (fun _ => h2 _ _ rs0) (fun v _ _ hv ex y0 y1 _ => absurd ⟨by rw [e4, ex]; exact inB_y hv (by omega), y0, y1⟩ z))) (fun v hi1 hv ex y0 y1 hs => qq h hQ hs.s01 (fun Q2 h2 => ?_))
    obtain ⟨hF1, hfl, hw1, hk1, h331, hlg⟩ := h.at1 hF hk hs.s01
    refine c_rwall hF1 hw1 (fun z => absurd ⟨by rw [ex]; exact inB_y hv (by omega), y0, y1⟩ z) (fun v' hi2 t2 hv' ex' _ _ hrs => ?_)
    obtain rfl := nI_j ex' ex hv' hv (by omega)
    rw [spV_fl hfl]
    exact h2 _ _ hrs
theorem s_listen {x : Int32} (h : JA hi hi f dr n ev wi nx kp dy sa L lc pc) : Sim G (d + 40) 133 [.ref 0, .int x] 278 [.ref 58, .int x] hi hl f dr t := by
  intro Q hQ
  obtain ⟨hf, hn7, hev6, e3, e4, e26, e27, e0⟩ := h.nn
  rcases Nat.eq_zero_or_pos n with hn | hn
  · obtain ⟨z3, z4, z26, z27, -⟩ := h.none hn
    exact c_listen0 hf z4 (qq h hQ Same.rf (fun Q2 h2 => c_rlisten0 z27 (h2 _ _ rs0)))
  · obtain ⟨lw, sz, hF, hO, hk, hn2, hev1⟩ := h.fort hn
    obtain ⟨hw, hkn, hrk, h33, h32, hdy⟩ := h.rw
    refine c_listen hf hk.2.1 hk.2.2.1 hk.2.2.2.1 hk.2.2.2.2.si (fun z => qq h hQ Same.rf (fun Q2 h2 => c_rlisten hF hw (fun _ => h2 _ _ rs0) (fun v _ _ hv ex _ => absurd (show inB x (hi f 4) = true by rw [e4, ex]; exact inB_y hv (by omega)) (by rw [z]; decide)))) (fun v hi1 hv ex hs => qq h hQ hs.s01 (fun Q2 h2 => ?_))
    obtain ⟨hF1, hfl, hw1, hk1, h331, hlg⟩ := h.at1 hF hk hs.s01
    refine c_rlisten hF1 hw1 (fun z => absurd (show inB x (nI ev) = true by rw [ex]; exact inB_y hv (by omega)) (by rw [z]; decide)) (fun v' hi2 t2 hv' ex' hrs => ?_)
    obtain rfl := nI_j ex' ex hv' hv (by omega)
    rw [heV_congr hfl]
    exact h2 _ _ hrs
theorem s_seat {x : Int32} (h : JA hi hi f dr n ev wi nx kp dy sa L lc pc) : Sim G (d + 40) 138 [.ref 0, .int x] 258 [.ref 58, .int x] hi hl f dr t := by
  intro Q hQ
  obtain ⟨hf, hn7, hev6, e3, e4, e26, e27, e0⟩ := h.nn
  rcases Nat.eq_zero_or_pos n with hn | hn
  · obtain ⟨z3, z4, z26, z27, -⟩ := h.none hn
    exact c_seat0 hf z3 (qq h hQ Same.rf (fun Q2 h2 => c_rsea0 z26 (h2 _ _ rs0)))
  · obtain ⟨lw, sz, hF, hO, hk, hn2, hev1⟩ := h.fort hn
    obtain ⟨hw, hkn, hrk, h33, h32, hdy⟩ := h.rw
    refine c_seat hf hk.2.1 hk.2.2.1 hk.2.2.2.1 hk.2.2.2.2 (fun z => qq h hQ Same.rf (fun Q2 h2 => c_rsea (lg := min dy 60) hF hw (by omega) h33 (fun _ => h2 _ _ rs0) (fun v _ _ hv ex _ => absurd (show inB x (hi f 3) = true by rw [e3, ex]; exact inB_y hv (by omega)) (by rw [z]; decide)))) (fun p hi1 hp ex hs => qq h hQ hs (fun Q2 h2 => ?_))
    obtain ⟨hF1, hfl, hw1, hk1, h331, hlg⟩ := h.at1 hF hk hs
    refine c_rsea hF1 hw1 hlg h331 (fun z => absurd (show inB x (nI n) = true by rw [ex]; exact inB_y hp (by omega)) (by rw [z]; decide)) (fun p' hi2 t2 hp' ex' hrs => ?_)
    obtain rfl := nI_j ex' ex hp' hp (by omega)
    rw [gnV_congr hfl, hfl.2.1]
    exact h2 _ _ hrs
/-- nobody loses by a change of seats -/
theorem gsw_ge (hF : RF hi f lw sz n ev wi) (hw : RW n (hi 39) (hi 71)) (hr : ROk n (hi 39)) {a b : Nat} (ha : a < n) (hb : b < n) : -1 < gnV hi f lw sz n ev wi (hi (f + 1) 3) (swR (hi 39) n (nI a) (nI b)) := by
  have hn7 := hF.2.1.1
  obtain ⟨-, ⟨C, hC, eC⟩, -⟩ := hF.nums
  rw [eC]
  exact gn_ge hF (hw.sw hn7 ha hb) (hr.ext (fun p hp => swR_high hn7 (by omega)) (swR_high hn7 (by omega))) hC
theorem s_best (h : JA hi hi f dr n ev wi nx kp dy sa L lc pc) : Sim G (d + 40) 139 [.ref 0] 259 [.ref 58] hi hl f dr t := by
  intro Q hQ
  obtain ⟨hf, hn7, hev6, e3, e4, e26, e27, e0⟩ := h.nn
  rcases Nat.eq_zero_or_pos n with hn | hn
  · obtain ⟨z3, z4, z26, z27, -⟩ := h.none hn
    exact c_best0 hf z3 (qq h hQ Same.rf (fun Q2 h2 => c_rbest0 z26 (h2 _ _ rs0)))
  · obtain ⟨lw, sz, hF, hO, hk, hn2, hev1⟩ := h.fort hn
    obtain ⟨hw, hkn, hrk, h33, h32, hdy⟩ := h.rw
    refine c_best hf hk.2.1 hk.2.2.1 hk.2.2.2.1 hk.2.2.2.2 (fun hi1 hs => qq h hQ hs (fun Q2 h2 => ?_))
    obtain ⟨hF1, hfl, hw1, hk1, h331, hlg⟩ := h.at1 hF hk hs
    have es := hw.s hn7 hF.2.1.2.2.2.1
    refine c_rbest (g := seV hi f lw sz n ev wi) hF1 hw1 hlg h331 (fun p => ?_) ?_ (fun hi2 t2 hrs => h2 _ _ hrs)
    · rw [gnV_congr hfl, hfl.2.1]; rfl
    · unfold seV
      rw [es.2.1]
      exact gsw_ge hF hw hrk es.1 hn
theorem s_swap {x : Int32} (h : JA hi hi f dr n ev wi nx kp dy sa L lc pc) : Sim G (d + 40) 140 [.ref 0, .int x] 280 [.ref 58, .int x] hi hl f dr t := by
  intro Q hQ
  obtain ⟨hf, hn7, hev6, e3, e4, e26, e27, e0⟩ := h.nn
  rcases Nat.eq_zero_or_pos n with hn | hn
  · obtain ⟨z3, z4, z26, z27, -⟩ := h.none hn
    exact c_swap0 hf z3 (qq h hQ Same.rf (fun Q2 h2 => c_rswap0 z26 (h2 _ _ rs0)))
  · obtain ⟨lw, sz, hF, hO, hk, hn2, hev1⟩ := h.fort hn
    obtain ⟨hw, hkn, hrk, h33, h32, hdy⟩ := h.rw
    refine c_swap hk (fun z => qq h hQ Same.rf (fun Q2 h2 => c_rswap (g := swV hi f lw sz n ev wi) (lg := min dy 60) hF hn2 hw (by omega) h33 (fun a b => rfl) (fun a b ha hb => gsw_ge hF hw hrk ha hb) (fun _ => h2 _ _ rs0) (fun x0 x1 => absurd ⟨x0, x1⟩ z))) (fun x0 x1 hi1 hs => qq h hQ hs (fun Q2 h2 => ?_))
    obtain ⟨hF1, hfl, hw1, hk1, h331, hlg⟩ := h.at1 hF hk hs
    exact c_rswap (g := swV hi f lw sz n ev wi) hF1 hn2 hw1 hlg h331 (fun a b => by rw [gnV_congr hfl, hfl.2.1]; rfl) (fun a b ha hb => gsw_ge hF hw hrk ha hb) (fun z => absurd ⟨x0, x1⟩ z) (fun _ _ hi2 t2 hrs => h2 _ _ hrs)
theorem s_price {x : Int32} (h : JA hi hi f dr n ev wi nx kp dy sa L lc pc) : Sim G (d + 40) 141 [.ref 0, .int x] 284 [.ref 58, .int x] hi hl f dr t := by
  intro Q hQ
  obtain ⟨hf, hn7, hev6, e3, e4, e26, e27, e0⟩ := h.nn
  rcases Nat.eq_zero_or_pos n with hn | hn
  · obtain ⟨z3, z4, z26, z27, -⟩ := h.none hn
    exact c_price0 hf z3 (qq h hQ Same.rf (fun Q2 h2 => c_rprice0 z26 (h2 _ _ rs0)))
  · obtain ⟨lw, sz, hF, hO, hk, hn2, hev1⟩ := h.fort hn
    obtain ⟨hw, hkn, hrk, h33, h32, hdy⟩ := h.rw
    refine c_price hk (fun z => qq h hQ Same.rf (fun Q2 h2 => c_rprice (g := prV hi f lw sz n ev wi) (lg := min dy 60) hF hw (by omega) h33 (fun a => rfl) (fun a ha => gn_ge hF hw hrk (by omega)) (fun _ => h2 _ _ rs0) (fun x0 x1 => absurd ⟨x0, x1⟩ z))) (fun x0 x1 hi1 hs => qq h hQ hs (fun Q2 h2 => ?_))
    obtain ⟨hF1, hfl, hw1, hk1, h331, hlg⟩ := h.at1 hF hk hs
    exact c_rprice (g := prV hi f lw sz n ev wi) hF1 hw1 hlg h331 (fun a => by rw [gnV_congr hfl]; rfl) (fun a ha => gn_ge hF hw hrk (by omega)) (fun z => absurd ⟨x0, x1⟩ z) (fun _ _ hi2 t2 hrs => h2 _ _ hrs)
theorem s_escape {x set : Int32} (h : JA hi hi f dr n ev wi nx kp dy sa L lc pc) : Sim G (d + 40) 134 [.ref 0, .int set, .int x] 276 [.ref 58, .int set, .int x] hi hl f dr t := by
  intro Q hQ
  obtain ⟨hf, hn7, hev6, e3, e4, e26, e27, e0⟩ := h.nn
  rcases Nat.eq_zero_or_pos n with hn | hn
  · obtain ⟨z3, z4, z26, z27, -⟩ := h.none hn
    exact c_escape0 hf z4 (qq h hQ Same.rf (fun Q2 h2 => c_rescape0 z26 (h2 _ _ rs0)))
  · obtain ⟨lw, sz, hF, hO, hk, hn2, hev1⟩ := h.fort hn
    obtain ⟨hw, hkn, hrk, h33, h32, hdy⟩ := h.rw
    refine c_escape hk (fun z => qq h hQ Same.rf (fun Q2 h2 => c_rescapeB hF hw (fun _ => h2 _ _ rs0) (fun v _ _ hv ex s0 s1 _ => absurd ⟨by rw [e4, ex]; exact inB_y hv (by omega), s0, by rw [e3]; exact s1⟩ z))) (fun v hi1 hv ex s0 s1 hs => qq h hQ hs.s01 (fun Q2 h2 => ?_))
    obtain ⟨hF1, hfl, hw1, hk1, h331, hlg⟩ := h.at1 hF hk hs.s01
    refine c_rescapeB hF1 hw1 (fun z => absurd ⟨by rw [ex]; exact inB_y hv (by omega), s0, by rw [← e3]; exact s1⟩ z) (fun v' hi2 t2 hv' ex' _ _ hrs => ?_)
    obtain rfl := nI_j ex' ex hv' hv (by omega)
    rw [heV_congr hfl]
    exact h2 _ _ hrs
theorem s_trust {x : Int32} (h : JA hi hi f dr n ev wi nx kp dy sa L lc pc) : Sim G (d + 40) 135 [.ref 0, .int x] 274 [.ref 58, .int x] hi hl f dr t := by
  intro Q hQ
  obtain ⟨hf, hn7, hev6, e3, e4, e26, e27, e0⟩ := h.nn
  rcases Nat.eq_zero_or_pos n with hn | hn
  · obtain ⟨z3, z4, z26, z27, -⟩ := h.none hn
    exact c_trust0 hf z3 (qq h hQ Same.rf (fun Q2 h2 => c_rtrust0 z26 (h2 _ _ rs0)))
  · obtain ⟨lw, sz, hF, hO, hk, hn2, hev1⟩ := h.fort hn
    obtain ⟨hw, hkn, hrk, h33, h32, hdy⟩ := h.rw
    refine c_trust hk (fun z => qq h hQ Same.rf (fun Q2 h2 => c_rtrust hF hw (fun _ => h2 _ _ rs0) (fun c hc ex => absurd (show inB x (hi f 3) = true by rw [e3, ex]; exact inB_y hc (by omega)) (by rw [z]; decide)))) (fun c hc ex => qq h hQ Same.rf (fun Q2 h2 => c_rtrust hF hw (fun z => absurd (show inB x (nI n) = true by rw [ex]; exact inB_y hc (by omega)) (by rw [z]; decide)) (fun c' hc' ex' => ?_)))
    obtain rfl := nI_j ex' ex hc' hc (by omega)
    exact h2 _ _ rs0
theorem s_wears (h : JA hi hi f dr n ev wi nx kp dy sa L lc pc) : Sim G (d + 40) 136 [.ref 0] 277 [.ref 58] hi hl f dr t := by
  intro Q hQ
  obtain ⟨hf, hn7, hev6, e3, e4, e26, e27, e0⟩ := h.nn
  rcases Nat.eq_zero_or_pos n with hn | hn
  · obtain ⟨z3, z4, z26, z27, -⟩ := h.none hn
    exact c_wears0 hf z3 (qq h hQ Same.rf (fun Q2 h2 => c_rwears0 z26 (h2 _ _ rs0)))
  · obtain ⟨lw, sz, hF, hO, hk, hn2, hev1⟩ := h.fort hn
    obtain ⟨hw, hkn, hrk, h33, h32, hdy⟩ := h.rw
    obtain ⟨L0, hL0, eL⟩ := hrk.2
    exact c_wears hk (qq h hQ Same.rf (fun Q2 h2 => c_rwears hF hw eL (by omega) (h2 _ _ rs0)))
theorem s_merits (h : JA hi hi f dr n ev wi nx kp dy sa L lc pc) : Sim G (d + 40) 150 [.ref 0] 279 [.ref 58] hi hl f dr t := by
  intro Q hQ
  obtain ⟨hf, hn7, hev6, e3, e4, e26, e27, e0⟩ := h.nn
  refine c_merits hf hn7 e3 ?_
  rcases Nat.eq_zero_or_pos n with hn | hn
  · obtain ⟨z3, z4, z26, z27, -⟩ := h.none hn
    rw [if_neg (by rw [z3]; decide)]
    exact qq h hQ Same.rf (fun Q2 h2 => c_rmerits0 z26 (h2 _ _ rs0))
  · obtain ⟨lw, sz, hF, hO, hk, hn2, hev1⟩ := h.fort hn
    rw [if_pos (of_decide_eq_true (hf3 hF))]
    exact qq h hQ Same.rf (fun Q2 h2 => c_rmerits hF (h2 _ _ rs0))
theorem s_quiet (h : JA hi hi f dr n ev wi nx kp dy sa L lc pc) : Sim G (d + 40) 151 [.ref 0] 281 [.ref 58] hi hl f dr t := by
  intro Q hQ
  obtain ⟨hf, hn7, hev6, e3, e4, e26, e27, e0⟩ := h.nn
  rcases Nat.eq_zero_or_pos n with hn | hn
  · obtain ⟨z3, z4, z26, z27, ze⟩ := h.none hn
    exact c_quiet hf hev6 e4 (fun _ => qq h hQ Same.rf (fun Q2 h2 => c_rquiet0 z26 (h2 _ _ rs0))) (fun z => absurd z (by omega))
  · obtain ⟨lw, sz, hF, hO, hk, hn2, hev1⟩ := h.fort hn
    exact c_quiet hf hev6 e4 (fun z => absurd z (by omega)) (fun _ => qq h hQ Same.rf (fun Q2 h2 => c_rquiet hF hev1 (h2 _ _ rs0)))
theorem s_rich (h : JA hi hi f dr n ev wi nx kp dy sa L lc pc) : Sim G (d + 40) 152 [.ref 0] 282 [.ref 58] hi hl f dr t := by
  intro Q hQ
  obtain ⟨hf, hn7, hev6, e3, e4, e26, e27, e0⟩ := h.nn
  refine c_rich hf hn7 e3 ?_
  rcases Nat.eq_zero_or_pos n with hn | hn
  · obtain ⟨z3, z4, z26, z27, -⟩ := h.none hn
    rw [if_neg (by rw [z3]; decide)]
    exact qq h hQ Same.rf (fun Q2 h2 => c_rrich0 z26 (h2 _ _ rs0))
  · obtain ⟨lw, sz, hF, hO, hk, hn2, hev1⟩ := h.fort hn
    obtain ⟨hw, -⟩ := h.rw
    rw [if_pos (of_decide_eq_true (hf3 hF))]
    exact qq h hQ Same.rf (fun Q2 h2 => c_rrich hF hw (h2 _ _ rs0))
theorem s_most (h : JA hi hi f dr n ev wi nx kp dy sa L lc pc) : Sim G (d + 40) 153 [.ref 0] 283 [.ref 58] hi hl f dr t := by
  intro Q hQ
  obtain ⟨hf, hn7, hev6, e3, e4, e26, e27, e0⟩ := h.nn
  refine c_most hf hn7 e3 ?_
  rcases Nat.eq_zero_or_pos n with hn | hn
  · obtain ⟨z3, z4, z26, z27, -⟩ := h.none hn
    subst hn
    exact qq h hQ Same.rf (fun Q2 h2 => c_rmost0 z26 (h2 _ _ rs0))
  · obtain ⟨lw, sz, hF, hO, hk, hn2, hev1⟩ := h.fort hn
    obtain ⟨hw, hkn, -⟩ := h.rw
    exact qq h hQ Same.rf (fun Q2 h2 => c_rmost hF hkn (h2 _ _ rs0))
theorem s_buys {o p x y : Int32} (h : JA hi hi f dr n ev wi nx kp dy sa L lc pc) : Sim G (d + 40) 142 [.ref 0, .int o, .int p, .int x, .int y] 287 [.ref 58, .int o, .int p, .int x, .int y] hi hl f dr t := by
  intro Q hQ
  obtain ⟨hf, hn7, hev6, e3, e4, e26, e27, e0⟩ := h.nn
  rcases Nat.eq_zero_or_pos n with hn | hn
  · obtain ⟨z3, z4, z26, z27, -⟩ := h.none hn
    exact c_buys0 hf z3 (qq h hQ Same.rf (fun Q2 h2 => c_rbuys0 z26 (h2 _ _ rs0)))
  · obtain ⟨lw, sz, hF, hO, hk, hn2, hev1⟩ := h.fort hn
    obtain ⟨hw, hkn, hrk, h33, h32, hdy⟩ := h.rw
    refine c_buys hk (fun z => qq h hQ Same.rf (fun Q2 h2 => c_rbuysB (lg := min dy 60) hF hw (by omega) h33 (fun _ => h2 _ _ rs0) (fun a b _ _ _ _ _ _ cb x0 x1 y0 y1 _ => absurd ⟨by rw [e3]; exact cb, x0, x1, y0, y1⟩ z))) (fun a b hi1 ha hb eo ep cb x0 x1 y0 y1 hs => qq h hQ hs (fun Q2 h2 => ?_))
    obtain ⟨hF1, hfl, hw1, hk1, h331, hlg⟩ := h.at1 hF hk hs
    refine c_rbuysB hF1 hw1 hlg h331 (fun z => absurd ⟨by rw [← e3]; exact cb, x0, x1, y0, y1⟩ z) (fun a' b' hi2 t2 ha' hb' eo' ep' _ _ _ _ _ hrs => ?_)
    obtain rfl := nI_j eo' eo ha' ha (by omega)
    obtain rfl := nI_j ep' ep hb' hb (by omega)
    rw [hbV_congr hfl, hfl.2.1]
    exact h2 _ _ hrs
theorem s_rests {o p i : Int32} (h : JA hi hi f dr n ev wi nx kp dy sa L lc pc) : Sim G (d + 40) 143 [.ref 0, .int o, .int p, .int i] 288 [.ref 58, .int o, .int p, .int i] hi hl f dr t := by
  intro Q hQ
  obtain ⟨hf, hn7, hev6, e3, e4, e26, e27, e0⟩ := h.nn
  rcases Nat.eq_zero_or_pos n with hn | hn
  · obtain ⟨z3, z4, z26, z27, -⟩ := h.none hn
    exact c_rests0 hf z3 (qq h hQ Same.rf (fun Q2 h2 => c_rrests0 z26 (h2 _ _ rs0)))
  · obtain ⟨lw, sz, hF, hO, hk, hn2, hev1⟩ := h.fort hn
    obtain ⟨hw, hkn, hrk, h33, h32, hdy⟩ := h.rw
    refine c_rests hk (fun z => qq h hQ Same.rf (fun Q2 h2 => c_rrestsB (lg := min dy 60) hF hw (by omega) h33 (fun _ => h2 _ _ rs0) (fun a b _ _ _ _ _ _ cb x0 _ => absurd ⟨by rw [e3]; exact cb, x0⟩ z))) (fun a b hi1 ha hb eo ep cb x0 hs => qq h hQ hs (fun Q2 h2 => ?_))
    obtain ⟨hF1, hfl, hw1, hk1, h331, hlg⟩ := h.at1 hF hk hs
    refine c_rrestsB hF1 hw1 hlg h331 (fun z => absurd ⟨by rw [← e3]; exact cb, x0⟩ z) (fun a' b' hi2 t2 ha' hb' eo' ep' _ _ hrs => ?_)
    obtain rfl := nI_j eo' eo ha' ha (by omega)
    obtain rfl := nI_j ep' ep hb' hb (by omega)
    rw [hbV_congr hfl, hfl.2.1]
    exact h2 _ _ hrs
end SIMQ2
