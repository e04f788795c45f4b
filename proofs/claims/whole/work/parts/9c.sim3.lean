/-! QUESTIONS: what was said, counts, plans -/
theorem rnR_plan {hi : Nat → Nat → Int32} {f : Nat} {lw : Option Nat} {sz n ev wi N : Nat} {P P' : Nat → Int32} (h : ∀ j, j < N * 3 → P j = P' j) : ∀ (m i : Nat) (row : Nat → Int32), i + m ≤ N → rnR hi f lw sz n ev wi P m i row = rnR hi f lw sz n ev wi P' m i row := by
  intro m
  induction m with
  | zero => intro i row _; rfl
  | succ m ih =>
    intro i row hm
    unfold rnR
    rw [h (i * 3 + 0) (by omega), h (i * 3 + 1) (by omega), h (i * 3 + 2) (by omega), ih _ _ (by omega)]
section SIMQ3
variable {G : ph_G} {d f dr t n ev wi nx kp dy sa L lc pc kr sz : Nat} {ar : List Value} {hi hi' hi1 : Nat → Nat → Int32} {hl : Nat → Nat → Int64} {Q : Option Value → ph_H → Prop} {lw : Option Nat}
theorem JA.said (h : JA hi hi f dr n ev wi nx kp dy sa L lc pc) : SaR hi hi n ev sa := h.1.2.2.2.2.2.2.2.2
theorem s_least (h : JA hi hi f dr n ev wi nx kp dy sa L lc pc) : Sim G (d + 40) 155 [.ref 0] 266 [.ref 58] hi hl f dr t := by
  intro Q hQ
  obtain ⟨hf, hn7, hev6, e3, e4, e26, e27, e0⟩ := h.nn
  refine c_least hf hev6 e4 ?_
  rcases Nat.eq_zero_or_pos n with hn | hn
  · obtain ⟨z3, z4, z26, z27, -⟩ := h.none hn
    rw [if_neg (by rw [z3]; decide)]
    exact qq h hQ Same.rf (fun Q2 h2 => c_rleast0 z26 (h2 _ _ rs0))
  · obtain ⟨lw, sz, hF, hO, hk, hn2, hev1⟩ := h.fort hn
    rw [if_pos (of_decide_eq_true (hf3 hF))]
    exact qq h hQ Same.rf (fun Q2 h2 => c_rleast h.said hF (h2 _ _ rs0))
theorem s_truths {x i : Int32} (h : JA hi hi f dr n ev wi nx kp dy sa L lc pc) : Sim G (d + 40) 156 [.ref 0, .int x, .int i] 268 [.ref 58, .int x, .int i] hi hl f dr t := by
  intro Q hQ
  obtain ⟨hf, hn7, hev6, e3, e4, e26, e27, e0⟩ := h.nn
  refine c_truths hf hev6 e4 ?_
  rw [e3]
  rcases Nat.eq_zero_or_pos n with hn | hn
  · obtain ⟨z3, z4, z26, z27, -⟩ := h.none hn
    rw [if_neg (fun z => by rw [hn, show nI 0 = 0 from rfl, cdB_0] at z; exact absurd z.1 (by decide))]
    exact qq h hQ Same.rf (fun Q2 h2 => c_rtruths0 z26 (h2 _ _ rs0))
  · obtain ⟨lw, sz, hF, hO, hk, hn2, hev1⟩ := h.fort hn
    exact qq h hQ Same.rf (fun Q2 h2 => c_rtruths h.said hF (h2 _ _ rs0))
theorem s_sure {x w : Int32} (h : JA hi hi f dr n ev wi nx kp dy sa L lc pc) : Sim G (d + 40) 157 [.ref 0, .int x, .int w] 269 [.ref 58, .int x, .int w] hi hl f dr t := by
  intro Q hQ
  obtain ⟨hf, hn7, hev6, e3, e4, e26, e27, e0⟩ := h.nn
  rcases Nat.eq_zero_or_pos n with hn | hn
  · obtain ⟨z3, z4, z26, z27, -⟩ := h.none hn
    exact c_sure hf hev6 e4 (fun _ => qq h hQ Same.rf (fun Q2 h2 => c_rsure0 z26 (h2 _ _ rs0))) (fun z => by rw [z3, cdB_0] at z; cases z)
  · obtain ⟨lw, sz, hF, hO, hk, hn2, hev1⟩ := h.fort hn
    exact c_sure hf hev6 e4 (fun z => qq h hQ Same.rf (fun Q2 h2 => c_rsure h.said hF (fun _ => h2 _ _ rs0) (fun a b c => absurd ⟨by rw [e3]; exact a, b, c⟩ z))) (fun a b c => qq h hQ Same.rf (fun Q2 h2 => c_rsure h.said hF (fun z => absurd ⟨by rw [← e3]; exact a, b, c⟩ z) (fun _ _ _ => h2 _ _ rs0)))
theorem s_ask {x : Int32} (h : JA hi hi f dr n ev wi nx kp dy sa L lc pc) : Sim G (d + 40) 158 [.ref 0, .int x] 270 [.ref 58, .int x] hi hl f dr t := by
  intro Q hQ
  obtain ⟨hf, hn7, hev6, e3, e4, e26, e27, e0⟩ := h.nn
  refine c_ask hf hev6 e4 ?_
  rw [e3]
  rcases Nat.eq_zero_or_pos n with hn | hn
  · obtain ⟨z3, z4, z26, z27, -⟩ := h.none hn
    rw [if_neg (fun z => by rw [hn, show nI 0 = 0 from rfl, cdB_0] at z; cases z)]
    exact qq h hQ Same.rf (fun Q2 h2 => c_rask0 z26 (h2 _ _ rs0))
  · obtain ⟨lw, sz, hF, hO, hk, hn2, hev1⟩ := h.fort hn
    exact qq h hQ Same.rf (fun Q2 h2 => c_rask h.said hF (h2 _ _ rs0))
theorem s_liars (h : JA hi hi f dr n ev wi nx kp dy sa L lc pc) : Sim G (d + 40) 159 [.ref 0] 271 [.ref 58] hi hl f dr t := by
  intro Q hQ
  obtain ⟨hf, hn7, hev6, e3, e4, e26, e27, e0⟩ := h.nn
  refine c_liars hf hev6 e4 ?_
  rcases Nat.eq_zero_or_pos n with hn | hn
  · obtain ⟨z3, z4, z26, z27, -⟩ := h.none hn
    rw [if_neg (by rw [z3]; decide)]
    exact qq h hQ Same.rf (fun Q2 h2 => c_rliars0 z26 (h2 _ _ rs0))
  · obtain ⟨lw, sz, hF, hO, hk, hn2, hev1⟩ := h.fort hn
    rw [if_pos (of_decide_eq_true (hf3 hF)), e3]
    exact qq h hQ Same.rf (fun Q2 h2 => c_rliars h.said hF (h2 _ _ rs0))
theorem s_belief {x : Int32} (h : JA hi hi f dr n ev wi nx kp dy sa L lc pc) : Sim G (d + 40) 160 [.ref 0, .int x] 273 [.ref 58, .int x] hi hl f dr t := by
  intro Q hQ
  obtain ⟨hf, hn7, hev6, e3, e4, e26, e27, e0⟩ := h.nn
  refine c_belief hf hn7 e3 hev6 e4 ?_
  rcases Nat.eq_zero_or_pos n with hn | hn
  · obtain ⟨z3, z4, z26, z27, -⟩ := h.none hn
    rw [if_neg (by rw [z4, inB_0]; decide)]
    exact qq h hQ Same.rf (fun Q2 h2 => c_rbelief0 z27 (h2 _ _ rs0))
  · obtain ⟨lw, sz, hF, hO, hk, hn2, hev1⟩ := h.fort hn
    rw [e4, show lkV hi f n ev = lkX hi f n ev (hi 55) (hi 56) from rfl]
    exact qq h hQ Same.rf (fun Q2 h2 => c_rbelief h.said hF (h2 _ _ rs0))
theorem s_count {w : Int32} (h : JA hi hi f dr n ev wi nx kp dy sa L lc pc) : Sim G (d + 40) 101 [.ref 0, .int w] 291 [.ref 58, .int w] hi hl f dr t := by
  intro Q hQ
  obtain ⟨hf, hn7, hev6, e3, e4, e26, e27, e0⟩ := h.nn
  obtain ⟨hw, hkn, hrk, h33, h32, hdy⟩ := h.rw
  obtain ⟨-, -, hlc, hpc, -, -, hL, hwi, -⟩ := h.1.ff
  obtain ⟨-, g1, g2, g3, g4, g5, g6, g7, g8⟩ := h.1
  refine c_count hf hn7 e3 hwi e0 h32 hdy (qq h hQ Same.rf (fun Q2 h2 => c_rcount (row := hi 39) (wi := wi) (te := if 0 < n then hi 39 wi else -1) hn7 e26 (fun z => if_neg (by omega)) (fun z => ⟨hw, ?_, ?_, if_pos z⟩) ?_))
  · obtain ⟨lw, sz, hF, -⟩ := h.fort z
    exact hF.2.1.2.2.2.1
  · obtain ⟨lw, sz, hF, -⟩ := h.fort z
    exact (hF.2.2.1.2.2.1 0 (by decide)).trans e0
  · have e : crV hi (if 0 < n then hi 39 wi else -1) (suR (fun i => hi 71 (4 * i + 1)) n 0 0) w = cnV hi f n wi dy w := by
      unfold crV cnV
      rw [e26, e27, e3, e4, g3.2.2.1, g3.2.1, g4.2.2.1, g4.2.1, g2.1, g2.2.1, g3.2.2.2.1, g1, g8.1, g8.2.1, h33, h.2.1.2.2.1, h.2.2.1, hw.2.2.2.2.1, hw.2.2.2.2.2.1, hw.2.2.2.2.2.2.1, hw.2.2.2.2.2.2.2.2,
        suR_congr (b := fun i => hi 71 (4 * i + 1)) (b' := fun i => hi 39 (7 + i)) (N := n) (fun j hj => hw.2.2.1 j hj) n 0 0 (by omega)]
      have ez : (if 0 < nI n then hi 39 wi else -1) = (if 0 < n then hi 39 wi else (-1 : Int32)) := by
        by_cases c : 0 < n
        · rw [if_pos c, if_pos (show (0 : Int32) < nI n from nI_lt (a := 0) c (by omega))]
        · rw [if_neg c, if_neg (show ¬ (0 : Int32) < nI n by rw [show n = 0 by omega]; decide)]
      rw [ez]
    rw [e]
    exact h2 _ _ rs0
theorem s_run {x w : Int32} (h : JA hi hi f dr n ev wi nx kp dy sa L lc pc) : Sim G (d + 40) 127 [.ref 0, .int x, .int w] 252 [.ref 58, .int x, .int w] hi hl f dr t := by
  intro Q hQ
  obtain ⟨hf, hn7, hev6, e3, e4, e26, e27, e0⟩ := h.nn
  rcases Nat.eq_zero_or_pos n with hn | hn
  · obtain ⟨z3, z4, z26, z27, -⟩ := h.none hn
    exact c_run0 hf z3 (qq h hQ Same.rf (fun Q2 h2 => c_rrun0 z26 (h2 _ _ rs0)))
  · obtain ⟨lw, sz, hF, hO, hk, hn2, hev1⟩ := h.fort hn
    obtain ⟨hw, hkn, hrk, h33, h32, hdy⟩ := h.rw
    obtain ⟨p1, p2, p3, p4⟩ := h.1.2.2.2.2.1
    have hst : ∀ k, k < pc → ∃ st P, PlK hi k st P := fun k hk => by obtain ⟨st, a, -⟩ := p4 k hk; exact ⟨st, _, a⟩
    have hpl : ∀ k, k < pc → ∃ st P, PlR hi k st P := fun k hk => by obtain ⟨st, -, a⟩ := p4 k hk; exact ⟨st, _, a⟩
    refine c_run hk p2 p1 h32 hdy hst (fun z => qq h hQ Same.rf (fun Q2 h2 => c_rrun (lg := min dy 60) hF hw hkn (by omega) h33 p3 p1 hpl (fun _ => h2 _ _ rs0) (fun k _ _ _ _ _ hk ex _ w0 w1 _ _ => absurd ⟨by rw [p2, ex]; exact inB_y hk (by omega), w0, w1⟩ z))) (fun k st P x' hi1 hk' ex hP w0 w1 hs ex' hx1 hx2 => qq h hQ hs (fun Q2 h2 => ?_))
    obtain ⟨hF1, hfl, hw1, hk1, h331, hlg⟩ := h.at1 hF hk hs
    have hpl1 : ∀ k, k < pc → ∃ st P, PlR hi1 k st P := fun k hk => by obtain ⟨st, P, a⟩ := hpl k hk; exact ⟨st, P, a.mv (fun j _ => by rw [hs 70 (by decide)]) (fun j _ => by rw [hs 69 (by decide)])⟩
    refine c_rrun hF1 hw1 hk1 hlg h331 (by rw [hs 58 (by decide)]; exact p3) p1 hpl1 (fun z => absurd ⟨by rw [ex]; exact inB_y hk' (by omega), w0, w1⟩ z) (fun k2 st2 P2 x2 hi2 t2 hk2 exx hP2 _ _ hrs ex2 => ?_)
    obtain rfl := nI_j exx ex hk2 hk' (by omega)
    obtain ⟨st0, a0, b0⟩ := p4 k2 hk2
    have hst0 := a0.2.1
    have hst1 := hP.2.1
    have hst2 := hP2.2.1
    obtain rfl : st = st0 := (nI_eq (by omega) (by omega)).mp (hP.2.2.1.symm.trans a0.2.2.1)
    obtain rfl : st2 = st := by
      have e1 := hP2.2.2.1
      rw [hs 70 (by decide), b0.2.2.1] at e1
      exact (nI_eq (by omega) (by omega)).mp e1.symm
    have eP : ∀ j, j < st2 * 3 → P2 j = P j := fun j hj => by
      have e1 := hP2.2.2.2.1 j hj
      rw [hs 69 (by decide), b0.2.2.2.1 j hj, hP.2.2.2] at e1
      exact e1.symm
    obtain rfl : x2 = x' := by
      rw [ex2, ex', rnR_congr hfl, rnR_plan eP st2 0 _ (by omega)]
    exact h2 _ _ hrs
end SIMQ3
