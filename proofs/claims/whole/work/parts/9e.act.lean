/-! ACTS on both sides -/
section SIMA
variable {G : ph_G} {d f dr t n ev wi nx kp dy sa L lc pc kr sz : Nat} {ar : List Value} {hi hi' hi1 hi2 hc hr hc' hr' : Nat → Nat → Int32} {hl : Nat → Nat → Int64} {Q : Option Value → ph_H → Prop} {lw : Option Nat}
theorem JA.mv (h : JA hc hr f dr n ev wi nx kp dy sa L lc pc) (h1 : ∀ a, a < 58 → hc' a = hc a) (h2 : ∀ a, 58 ≤ a → hr' a = hr a) : JA hc' hr' f dr n ev wi nx kp dy sa L lc pc := by
  obtain ⟨a1, a2⟩ := h
  obtain ⟨hf, hdr, hlc, hpc, -⟩ := a1.ff
  have hf' : f = 3 ∨ f = 7 := hf
  refine ⟨a1.mv ⟨h1 0 (by decide), by rw [h1 1 (by decide)], h1 2 (by decide), ⟨h1 _ (by omega), h1 _ (by omega), h1 _ (by omega), h1 _ (by omega)⟩, fun k hk => ⟨h1 _ (by omega), h1 _ (by omega)⟩, fun k hk => ⟨h1 _ (by omega), h1 _ (by omega)⟩, fun a ha => h1 a (by revert ha; revert a; decide)⟩ ⟨fun a ha => h2 a (by revert ha; revert a; decide), fun k _ => by rw [h2 58 (by decide)], fun j _ => by rw [h2 69 (by decide)], fun j _ => by rw [h2 70 (by decide)]⟩, a2.mv (h1 _ (by decide)) (h1 _ (by decide)) (h1 _ (by decide)) (h1 _ (by decide)) (h2 71 (by decide)) (h2 74 (by decide)) (by rw [h2 58 (by decide)])⟩
theorem JA.step {row' : Nat → Int32} {log : Bool} (h : JA hc hr f dr n ev wi nx kp dy sa L lc pc) (hcs : CStep row' log nx kp dy hc hc') (hrs : RStep n kp row' log hr hr') (h32 : row' 32 = nI dy) (hrok : ROk n row') (hlast : log = true → dy < 9999) : JA hc' hr' f dr n ev wi ((nx + 1) % 40) (min (kp + 1) 40) (if log = true then dy + 1 else dy) sa L lc pc := by
  obtain ⟨a1, a2⟩ := h
  obtain ⟨hf, hdr, hlc, hpc, hn7, -⟩ := a1.ff
  exact ⟨a1.mv (hcs.2.2.2.2.cmo hf hlc hpc (by decide)) hrs.1.1.mo, a2.step hn7 hcs hrs h32 hrok hlast⟩
theorem act_ge (hs : Same (45 :: 48 :: 49 :: 52 :: 39 :: scr0) hi hi1) : ∀ a, 58 ≤ a → hi1 a = hi a := fun a ha => hs a (fun z => by simp only [scr0, List.mem_cons, List.not_mem_nil, or_false] at z; omega)
theorem RaF.cl (h : RaF hi hi') : ∀ a, a < 58 → hi' a = hi a := fun a ha => h.1 a (by omega) (by omega) (by omega) (by omega) (by omega)
/-- one act, on both sides -/
theorem JA.one {row' : Nat → Int32} {log : Bool} (h : JA hi hi f dr n ev wi nx kp dy sa L lc pc) (hcs : CStep row' log nx kp dy hi hi1) (hrs : RStep n kp row' log hi1 hi2) (h32 : row' 32 = nI dy) (hrok : ROk n row') (hlast : log = true → dy < 9999) : J hi2 f dr :=
  ⟨n, ev, wi, _, _, _, sa, L, lc, pc, ((h.mv (fun _ _ => rfl) (act_ge hcs.2.2.2.2)).step hcs hrs h32 hrok hlast).mv hrs.1.1.cl (fun _ _ => rfl)⟩
theorem JA.at2 (h : JA hi hi f dr n ev wi nx kp dy sa L lc pc) (hF : RF hi f lw sz n ev wi) (hk : CK hi f lw sz n ev wi) (hs : Same (45 :: 48 :: 49 :: 52 :: 39 :: scr0) hi hi1) : RF hi1 f lw sz n ev wi ∧ FLs f lw hi hi1 ∧ RW n (hi 39) (hi1 71) ∧ KN n (hi 39) (hi1 71) ∧ hi1 71 33 = nI (min dy 60) ∧ min dy 60 ≤ 60 ∧ hi1 58 38 = nI kp ∧ kp ≤ 40 := by
  have hfl : FLs f lw hi hi1 := FLs_of hk.1 hk.2.1 hs (by decide)
  have g := act_ge hs
  obtain ⟨w1, w2, -, w3, -⟩ := h.rw
  refine ⟨hF.mv hfl (g 60 (by decide)) (g 61 (by decide)) (g 63 (by decide)) (g 65 (by decide)) (g 67 (by decide)) (by rw [g 58 (by decide)]) (by rw [g 58 (by decide)]) (by rw [g 58 (by decide)]), hfl, ?_, ?_, ?_, by omega, ?_, h.2.1.2.2.2⟩
  · rw [g 71 (by decide)]; exact w1
  · rw [g 71 (by decide)]; exact w2
  · rw [g 71 (by decide)]; exact w3
  · rw [g 58 (by decide)]; exact h.2.2.1
theorem chg_32 {ev wi : Nat} {row : Nat → Int32} {kd fi se : Int32} (hn : n ≤ 7) (hs : sOf row wi < 7) (hkd : ¬ kd = 4) (hcb : kd = 0 ∨ kd = 1 ∨ kd = 2 ∨ kd = 3 ∨ kd = 4) : chg hi f lw sz n ev (sOf row) wi row kd fi se 32 = row 32 := by
  unfold chg
  rcases hcb with rfl | rfl | rfl | rfl | rfl
  · rw [if_pos rfl, vu_o _ _ (by decide)]
  · rw [if_neg (by decide), if_pos rfl]
    exact swR_high hn (by decide)
  · rw [if_neg (by decide), if_neg (by decide), if_pos rfl]
    exact chg_2 hs hn (Or.inr (Or.inr rfl))
  · rw [if_neg (by decide), if_neg (by decide), if_neg (by decide), if_pos rfl, vu_o _ _ (by decide), vu_o _ _ (by have := riR_7 (b := fun i => row (7 + i)) hn; omega)]
  · exact absurd rfl hkd
/-- an act by hand, on both sides -/
theorem act_J {kd fi se : Int32} (h : JA hi hi f dr n ev wi nx kp dy sa L lc pc) (hF : RF hi f lw sz n ev wi) (hk : CK hi f lw sz n ev wi) (hkd : kd = 0 ∨ kd = 1 ∨ kd = 2 ∨ kd = 3 ∨ kd = 4) (h4 : ¬ kd = 4) (hcb : canB hi f (hi 39) n kd fi se = true) (hp : actQ hi f lw sz n ev (sOf (hi 39)) wi nx kp dy kd fi se hi1) (hr : RStep n kp (chg hi f lw sz n ev (sOf (hi 39)) wi (hi 39) kd fi se) false hi1 hi2) : J hi2 f dr := by
  obtain ⟨hw, hkn, hrk, h33, h32, hdy⟩ := h.rw
  have hn7 := hF.2.1.1
  have hs := (hw.s hn7 hF.2.1.2.2.2.1).1
  have hp' : CStep (chg hi f lw sz n ev (sOf (hi 39)) wi (hi 39) kd fi se) false nx kp dy hi hi1 := by
    have e : decide (kd = 4) = false := decide_eq_false h4
    have hq := hp
    unfold actQ at hq
    rw [e] at hq
    exact CStep.of_act hq
  exact h.one hp' hr (by rw [chg_32 hn7 (by omega) h4 hkd]; exact h32) (chg_rok hF hw hrk hcb) (fun z => by cases z)
theorem s_see {x : Int32} (h : JA hi hi f dr n ev wi nx kp dy sa L lc pc) : Sim G (d + 40) 109 [.ref 0, .int x] 230 [.ref 58, .int x] hi hl f dr t := by
  intro Q hQ
  obtain ⟨hf, hn7, hev6, e3, e4, e26, e27, e0⟩ := h.nn
  rcases Nat.eq_zero_or_pos n with hn | hn
  · obtain ⟨z3, z4, z26, z27, -⟩ := h.none hn
    exact c_see0 hf z3 (qq h hQ Same.rf (fun Q2 h2 => c_rsee0 z27 (h2 _ _ rs0)))
  · obtain ⟨lw, sz, hF, hO, hk, hn2, hev1⟩ := h.fort hn
    obtain ⟨hw, hkn, hrk, h33, h32, hdy⟩ := h.rw
    refine c_see hO (fun z => qq h hQ Same.rf (fun Q2 h2 => c_rsee hF hw hkn h.2.1.2.2.2 h.2.2.1 (fun _ => h2 _ _ rs0) (fun z' => absurd z' (by rw [z]; decide)))) (fun z hi1 hp => hQ _ _ _ _ _ _ (fun Q2 h2 => ?_))
    obtain ⟨hF1, hfl, hw1, hk1, h331, hlg, h381, hkp⟩ := h.at2 hF hk hp.2.2.2.2
    refine c_rsee hF1 hw1 hk1 hkp h381 (fun z' => absurd z (by rw [← canB_congr hfl, z']; decide)) (fun z' hi2 t2 hr => ?_)
    rw [chg_congr hfl] at hr ⊢
    have e := h2 hi2 hl t2 (act_J h hF hk (Or.inl rfl) (by decide) z hp hr)
    rw [hp.1] at e
    exact e
theorem s_tell (h : JA hi hi f dr n ev wi nx kp dy sa L lc pc) : Sim G (d + 40) 110 [.ref 0] 232 [.ref 58] hi hl f dr t := by
  intro Q hQ
  obtain ⟨hf, hn7, hev6, e3, e4, e26, e27, e0⟩ := h.nn
  rcases Nat.eq_zero_or_pos n with hn | hn
  · obtain ⟨z3, z4, z26, z27, -⟩ := h.none hn
    exact c_tell0 hf z3 (qq h hQ Same.rf (fun Q2 h2 => c_rtell0 z26 (h2 _ _ rs0)))
  · obtain ⟨lw, sz, hF, hO, hk, hn2, hev1⟩ := h.fort hn
    obtain ⟨hw, hkn, hrk, h33, h32, hdy⟩ := h.rw
    refine c_tell hO (fun z => qq h hQ Same.rf (fun Q2 h2 => c_rtell hF hw hkn h.2.1.2.2.2 h.2.2.1 (fun _ => h2 _ _ rs0) (fun z' => absurd z' (by rw [z]; decide)))) (fun z hi1 hp => hQ _ _ _ _ _ _ (fun Q2 h2 => ?_))
    obtain ⟨hF1, hfl, hw1, hk1, h331, hlg, h381, hkp⟩ := h.at2 hF hk hp.2.2.2.2
    refine c_rtell hF1 hw1 hk1 hkp h381 (fun z' => absurd z (by rw [← canB_congr hfl, z']; decide)) (fun z' hi2 t2 hr => ?_)
    rw [chg_congr hfl] at hr ⊢
    have e := h2 hi2 hl t2 (act_J h hF hk (Or.inr (Or.inr (Or.inl rfl))) (by decide) z hp hr)
    rw [hp.1] at e
    exact e
theorem s_move {x y : Int32} (h : JA hi hi f dr n ev wi nx kp dy sa L lc pc) : Sim G (d + 40) 111 [.ref 0, .int x, .int y] 235 [.ref 58, .int x, .int y] hi hl f dr t := by
  intro Q hQ
  obtain ⟨hf, hn7, hev6, e3, e4, e26, e27, e0⟩ := h.nn
  rcases Nat.eq_zero_or_pos n with hn | hn
  · obtain ⟨z3, z4, z26, z27, -⟩ := h.none hn
    exact c_move0 hf z3 (qq h hQ Same.rf (fun Q2 h2 => c_rmove0 z26 (h2 _ _ rs0)))
  · obtain ⟨lw, sz, hF, hO, hk, hn2, hev1⟩ := h.fort hn
    obtain ⟨hw, hkn, hrk, h33, h32, hdy⟩ := h.rw
    refine c_move hO (fun z => qq h hQ Same.rf (fun Q2 h2 => c_rmove hF hw hkn h.2.1.2.2.2 h.2.2.1 (fun _ => h2 _ _ rs0) (fun z' => absurd z' (by rw [z]; decide)))) (fun z hi1 hp => hQ _ _ _ _ _ _ (fun Q2 h2 => ?_))
    obtain ⟨hF1, hfl, hw1, hk1, h331, hlg, h381, hkp⟩ := h.at2 hF hk hp.2.2.2.2
    refine c_rmove hF1 hw1 hk1 hkp h381 (fun z' => absurd z (by rw [← canB_congr hfl, z']; decide)) (fun z' hi2 t2 hr => ?_)
    rw [chg_congr hfl] at hr ⊢
    have e := h2 hi2 hl t2 (act_J h hF hk (Or.inr (Or.inl rfl)) (by decide) z hp hr)
    rw [hp.1] at e
    exact e
theorem s_code (h : JA hi hi f dr n ev wi nx kp dy sa L lc pc) : Sim G (d + 40) 113 [.ref 0] 240 [.ref 58] hi hl f dr t := by
  intro Q hQ
  obtain ⟨hf, hn7, hev6, e3, e4, e26, e27, e0⟩ := h.nn
  rcases Nat.eq_zero_or_pos n with hn | hn
  · obtain ⟨z3, z4, z26, z27, -⟩ := h.none hn
    exact c_code0 hf z3 (qq h hQ Same.rf (fun Q2 h2 => c_rcode0 z26 (h2 _ _ rs0)))
  · obtain ⟨lw, sz, hF, hO, hk, hn2, hev1⟩ := h.fort hn
    obtain ⟨hw, hkn, hrk, h33, h32, hdy⟩ := h.rw
    refine c_code hO (fun z => qq h hQ Same.rf (fun Q2 h2 => c_rcode hF hw hkn h.2.1.2.2.2 h.2.2.1 (fun _ => h2 _ _ rs0) (fun z' => absurd z' (by rw [z]; decide)))) (fun z hi1 hp => hQ _ _ _ _ _ _ (fun Q2 h2 => ?_))
    obtain ⟨hF1, hfl, hw1, hk1, h331, hlg, h381, hkp⟩ := h.at2 hF hk hp.2.2.2.2
    refine c_rcode hF1 hw1 hk1 hkp h381 (fun z' => absurd z (by rw [← canB_congr hfl, z']; decide)) (fun z' hi2 t2 hr => ?_)
    rw [chg_congr hfl] at hr
    exact h2 hi2 hl t2 (act_J h hF hk (Or.inr (Or.inr (Or.inr (Or.inl rfl)))) (by decide) z hp hr)
theorem s_mirror {x b : Int32} (h : JA hi hi f dr n ev wi nx kp dy sa L lc pc) : Sim G (d + 40) 112 [.ref 0, .int x, .int b] 236 [.ref 58, .int x, .int b] hi hl f dr t := by
  intro Q hQ
  obtain ⟨hf, hn7, hev6, e3, e4, e26, e27, e0⟩ := h.nn
  rcases Nat.eq_zero_or_pos n with hn | hn
  · obtain ⟨z3, z4, z26, z27, -⟩ := h.none hn
    exact c_mirror0 hf z3 (qq h hQ Same.rf (fun Q2 h2 => c_rmirror0 z26 (h2 _ _ rs0)))
  · obtain ⟨lw, sz, hF, hO, hk, hn2, hev1⟩ := h.fort hn
    obtain ⟨hw, hkn, hrk, h33, h32, hdy⟩ := h.rw
    refine c_mirrorB hO (fun z => qq h hQ Same.rf (fun Q2 h2 => c_rmirrorB hF hw hkn h.2.1.2.2.2 h.2.2.1 (fun _ => h2 _ _ rs0) (fun j ex hj b0 b1 hne _ _ _ => absurd ⟨by rw [e3, ex]; exact inB_y hj (by omega), b0, by rw [e4]; exact b1, fun j' hj' ex' => ?_⟩ z))) (fun j ex hj _ b0 b1 hne hi1 hp => hQ _ _ _ _ _ _ (fun Q2 h2 => ?_))
    · obtain ⟨hF1, hfl, hw1, hk1, h331, hlg, h381, hkp⟩ := h.at2 hF hk hp.2.2.2.2
      refine c_rmirrorB hF1 hw1 hk1 hkp h381 (fun z => absurd ⟨by rw [ex]; exact inB_y hj (by omega), b0, by rw [← e4]; exact b1, fun j' hj' ex' => ?_⟩ z) (fun j' ex' hj' _ _ _ hi2 t2 hr => ?_)
      · obtain rfl := nI_j ex' ex hj' hj (by omega)
        exact h2 hi2 hl t2 (h.one (CStep.of_act hp) hr (by rw [vu_o _ _ (by omega)]; exact h32) (hrk.ext (fun p hp => by rw [vu_o _ _ (by omega)]) (by rw [vu_o _ _ (by omega)])) (fun z => by cases z))
      · obtain rfl := nI_j ex' ex hj' hj (by omega)
        exact hne
    · obtain rfl := nI_j ex' ex hj' hj (by omega)
      exact hne
end SIMA
