/-! ONE CALL OF THE CLASS, AND THE SAME OF THE REFERENCE: questions -/
/-- behind the class's call: the reference answers the same, and all holds again -/
def Aft (G : ph_G) (d kr : Nat) (ar : List Value) (r : Int32) (hi : Nat → Nat → Int32) (hl : Nat → Nat → Int64) (f dr t : Nat) : Prop := ∀ Q : Option Value → ph_H → Prop, (∀ hi2 hl2 t2, J hi2 f dr → Q (some (.int r)) (HP hi2 hl2 f dr t2)) → Ct G (0, 0) d kr ar (HP hi hl f dr t) Q
def Sim (G : ph_G) (d kc : Nat) (ac : List Value) (kr : Nat) (ar : List Value) (hi : Nat → Nat → Int32) (hl : Nat → Nat → Int64) (f dr t : Nat) : Prop := ∀ Q : Option Value → ph_H → Prop, (∀ r hi1 hl1 f1 dr1 t1, Aft G d kr ar r hi1 hl1 f1 dr1 t1 → Q (some (.int r)) (HP hi1 hl1 f1 dr1 t1)) → Ct G (0, 0) d kc ac (HP hi hl f dr t) Q
theorem inB_y {j m : Nat} (h : j < m) (hm : m < 2 ^ 31) : inB (nI j) (nI m) = true := inB_t (Int32.not_lt.mpr ((nI_leI (a := 0) (by decide) (by omega)).mpr (Nat.zero_le _))) (fun z => by have := (nI_leI hm (by omega)).mp z; omega)
theorem nI_j {x : Int32} {i j m : Nat} (h1 : x = nI i) (h2 : x = nI j) (hi : i < m) (hj : j < m) (hm : m < 2 ^ 31) : i = j := (nI_eq (by omega) (by omega)).mp (h1.symm.trans h2)
theorem Same.s01 {hi hi' : Nat → Nat → Int32} (h : Same scr0 hi hi') : Same scr1 hi hi' := fun b hb => h b (fun z => hb (by revert z; unfold scr1; intro z; exact List.mem_cons_of_mem _ (List.mem_cons_of_mem _ z)))
section SIMQ
variable {G : ph_G} {d f dr t n ev wi nx kp dy sa L lc pc kr sz : Nat} {ar : List Value} {hi hi' hi1 : Nat → Nat → Int32} {hl : Nat → Nat → Int64} {Q : Option Value → ph_H → Prop} {lw : Option Nat}
theorem qq (h : JA hi hi f dr n ev wi nx kp dy sa L lc pc) (hQ : ∀ r hi1 hl1 f1 dr1 t1, Aft G (d + 40) kr ar r hi1 hl1 f1 dr1 t1 → Q (some (.int r)) (HP hi1 hl1 f1 dr1 t1)) {r : Int32} (hs : Same scr1 hi hi1) (hc : ∀ Q2 : Option Value → ph_H → Prop, (∀ hi2 t2, RS hi1 hi2 → Q2 (some (.int r)) (HP hi2 hl f dr t2)) → Ct G (0, 0) (d + 40) kr ar (HP hi1 hl f dr t) Q2) : Q (some (.int r)) (HP hi1 hl f dr t) :=
  hQ r hi1 hl f dr t (fun Q2 h2 => hc Q2 (fun hi2 t2 hrs => h2 hi2 hl t2 ⟨n, ev, wi, nx, kp, dy, sa, L, lc, pc, (h.qc hs).qr hrs⟩))
theorem rs0 {x : Int32} : RS hi (up2 hi 58 0 x) := RS.upK (by decide) _
theorem JA.rw (h : JA hi hi f dr n ev wi nx kp dy sa L lc pc) : RW n (hi 39) (hi 71) ∧ KN n (hi 39) (hi 71) ∧ ROk n (hi 39) ∧ hi 71 33 = nI (min dy 60) ∧ hi 39 32 = nI dy ∧ dy ≤ 9999 := ⟨h.2.2.2.1.1, h.2.2.2.1.2.1, h.2.2.2.1.2.2.1, h.2.2.2.1.2.2.2.2.2.1, h.2.2.2.1.2.2.2.1, h.2.2.2.1.2.2.2.2.1⟩
theorem JA.nn (h : JA hi hi f dr n ev wi nx kp dy sa L lc pc) : Fok f ∧ n ≤ 7 ∧ ev ≤ 6 ∧ hi f 3 = nI n ∧ hi f 4 = nI ev ∧ hi 58 26 = nI n ∧ hi 58 27 = nI ev ∧ hi (f + 1) 0 = nI wi := by
  obtain ⟨hf, -, -, -, hn, hev, -⟩ := h.1.ff
  obtain ⟨b1, b2, b3, b4, b5, -⟩ := h.1.2.2.2.2.2.1
  exact ⟨hf, hn, hev, b1, b2, b3, b4, b5⟩
/-- behind a question to the class, for one to the reference -/
theorem JA.at1 (h : JA hi hi f dr n ev wi nx kp dy sa L lc pc) (hF : RF hi f lw sz n ev wi) (hk : CK hi f lw sz n ev wi) (hs : Same scr1 hi hi1) : RF hi1 f lw sz n ev wi ∧ FLs f lw hi hi1 ∧ RW n (hi 39) (hi1 71) ∧ KN n (hi 39) (hi1 71) ∧ hi1 71 33 = nI (min dy 60) ∧ min dy 60 ≤ 60 := by
  have hfl : FLs f lw hi hi1 := FLs1 hk.1 hk.2.1 hs
  obtain ⟨w1, w2, -, w3, -⟩ := h.rw
  refine ⟨hF.mv hfl (hs 60 (by decide)) (hs 61 (by decide)) (hs 63 (by decide)) (hs 65 (by decide)) (hs 67 (by decide)) (by rw [hs 58 (by decide)]) (by rw [hs 58 (by decide)]) (by rw [hs 58 (by decide)]), hfl, ?_, ?_, ?_, by omega⟩
  · rw [hs 71 (by decide)]; exact w1
  · rw [hs 71 (by decide)]; exact w2
  · rw [hs 71 (by decide)]; exact w3
theorem s_rule {x : Int32} (h : JA hi hi f dr n ev wi nx kp dy sa L lc pc) : Sim G (d + 40) 94 [.ref 0, .int x] 222 [.ref 58, .int x] hi hl f dr t := by
  intro Q hQ
  obtain ⟨hf, hn7, hev6, e3, e4, e26, e27, e0⟩ := h.nn
  refine c_rule hf (fun z => qq h hQ Same.rf (fun Q2 h2 => c_rrule (fun _ => h2 _ _ rs0) (fun j hj ex hp => absurd ⟨by rw [e3, ← e26]; exact hp, by rw [ex]; exact inB_y hj (by decide)⟩ z))) (fun j hj ex hp => qq h hQ Same.rf (fun Q2 h2 => c_rrule (fun z => absurd ⟨by rw [e26, ← e3]; exact hp, by rw [ex]; exact inB_y hj (by decide)⟩ z) (fun j' hj' ex' hp' => ?_)))
  obtain rfl := nI_j ex' ex hj' hj (by decide)
  have hn : 0 < n := by
    rcases Nat.eq_zero_or_pos n with hn | hn
    · rw [e3, hn] at hp; exact absurd hp (by decide)
    · exact hn
  obtain ⟨lw, sz, hF, -⟩ := h.fort hn
  rw [hF.2.2.1.2.2.1 j' hj']
  exact h2 _ _ rs0
theorem s_cell {x w : Int32} (h : JA hi hi f dr n ev wi nx kp dy sa L lc pc) : Sim G (d + 40) 96 [.ref 0, .int x, .int w] 224 [.ref 58, .int x, .int w] hi hl f dr t := by
  intro Q hQ
  obtain ⟨hf, hn7, hev6, e3, e4, e26, e27, e0⟩ := h.nn
  rcases Nat.eq_zero_or_pos n with hn | hn
  · obtain ⟨z3, z4, z26, z27, -⟩ := h.none hn
    exact c_cell hf hn7 e3 (fun _ => qq h hQ Same.rf (fun Q2 h2 => c_rcell0 z26 (h2 _ _ rs0))) (fun j hj => absurd hj (by omega))
  · obtain ⟨lw, sz, hF, hO, hk, hn2, hev1⟩ := h.fort hn
    obtain ⟨hw, hkn, hrk, h33, h32, hdy⟩ := h.rw
    refine c_cell hf hn7 e3 (fun z => qq h hQ Same.rf (fun Q2 h2 => c_rcell hF hw (fun _ => h2 _ _ rs0) (fun j hj ex w0 w1 => absurd ⟨by rw [e3, ex]; exact inB_y hj (by omega), w0, w1⟩ z))) (fun j hj ex w0 w1 => qq h hQ Same.rf (fun Q2 h2 => c_rcell hF hw (fun z => absurd ⟨by rw [ex]; exact inB_y hj (by omega), w0, w1⟩ z) (fun j' hj' ex' _ _ => ?_)))
    obtain rfl := nI_j ex' ex hj' hj (by omega)
    exact h2 _ _ rs0
theorem s_event {x w : Int32} (h : JA hi hi f dr n ev wi nx kp dy sa L lc pc) : Sim G (d + 40) 97 [.ref 0, .int x, .int w] 225 [.ref 58, .int x, .int w] hi hl f dr t := by
  intro Q hQ
  obtain ⟨hf, hn7, hev6, e3, e4, e26, e27, e0⟩ := h.nn
  rcases Nat.eq_zero_or_pos n with hn | hn
  · obtain ⟨z3, z4, z26, z27, ze⟩ := h.none hn
    exact c_event hf hev6 e4 (fun _ => qq h hQ Same.rf (fun Q2 h2 => c_revent0 z27 (h2 _ _ rs0))) (fun j hj => absurd hj (by omega))
  · obtain ⟨lw, sz, hF, hO, hk, hn2, hev1⟩ := h.fort hn
    obtain ⟨hw, hkn, hrk, h33, h32, hdy⟩ := h.rw
    refine c_event hf hev6 e4 (fun z => qq h hQ Same.rf (fun Q2 h2 => c_revent hF hw (fun _ => h2 _ _ rs0) (fun j hj ex => ⟨fun w0 => absurd ⟨by rw [e4, ex]; exact inB_y hj (by omega), by rw [w0]; decide, by rw [w0]; decide⟩ z, fun w0 => absurd ⟨by rw [e4, ex]; exact inB_y hj (by omega), by rw [w0]; decide, by rw [w0]; decide⟩ z, fun w0 => absurd ⟨by rw [e4, ex]; exact inB_y hj (by omega), by rw [w0]; decide, by rw [w0]; decide⟩ z⟩))) (fun j hj ex => ⟨fun w0 => ?_, fun w0 => ?_, fun w0 => ?_⟩)
    all_goals
      refine qq h hQ Same.rf (fun Q2 h2 => c_revent hF hw (fun z => absurd ⟨by rw [ex]; exact inB_y hj (by omega), by rw [w0]; decide, by rw [w0]; decide⟩ z) (fun j' hj' ex' => ?_))
      obtain rfl := nI_j ex' ex hj' hj (by omega)
      subst w0
      refine ⟨fun w1 => ?_, fun w1 => ?_, fun w1 => ?_⟩ <;> first | exact h2 _ _ rs0 | exact absurd w1 (by decide)
theorem s_log {x w : Int32} (h : JA hi hi f dr n ev wi nx kp dy sa L lc pc) : Sim G (d + 40) 100 [.ref 0, .int x, .int w] 247 [.ref 58, .int x, .int w] hi hl f dr t := by
  intro Q hQ
  obtain ⟨hw, hkn, hrk, h33, h32, hdy⟩ := h.rw
  refine c_log h32 hdy (fun z => qq h hQ Same.rf (fun Q2 h2 => c_rlog (lg := min dy 60) (by omega) h33 (fun _ => h2 _ _ rs0) (fun j k hj ex hk ew => absurd ⟨by rw [ex]; exact inB_y hj (by omega), by rw [ew]; exact inB_y hk (by decide)⟩ z))) (fun j k hj ex hk ew => qq h hQ Same.rf (fun Q2 h2 => c_rlog (lg := min dy 60) (by omega) h33 (fun z => absurd ⟨by rw [ex]; exact inB_y hj (by omega), by rw [ew]; exact inB_y hk (by decide)⟩ z) (fun j' k' hj' ex' hk' ew' => ?_)))
  obtain rfl := nI_j ex' ex hj' hj (by omega)
  obtain rfl := nI_j ew' ew hk' hk (by decide)
  rw [h.2.2.2.1.2.2.2.2.2.2 (min dy 60 - 1 - j') k' (by omega) hk', show dy - min dy 60 + (min dy 60 - 1 - j') = dy - 1 - j' by omega]
  exact h2 _ _ rs0
theorem s_step {x i w : Int32} (h : JA hi hi f dr n ev wi nx kp dy sa L lc pc) : Sim G (d + 40) 126 [.ref 0, .int x, .int i, .int w] 249 [.ref 58, .int x, .int i, .int w] hi hl f dr t := by
  intro Q hQ
  obtain ⟨p1, p2, p3, p4⟩ := h.1.2.2.2.2.1
  have hst : ∀ k, k < pc → ∃ st P, PlK hi k st P := fun k hk => by obtain ⟨st, a, -⟩ := p4 k hk; exact ⟨st, _, a⟩
  have hpl : ∀ k, k < pc → ∃ st P, PlR hi k st P := fun k hk => by obtain ⟨st, -, a⟩ := p4 k hk; exact ⟨st, _, a⟩
  have he : ∀ k, k < pc → hi (16 + 5 * k) 1 = hi 70 k := fun k hk => by obtain ⟨st, a, b⟩ := p4 k hk; rw [a.2.2.1, b.2.2.1]
  refine c_stepB p2 p1 hst (fun z => qq h hQ Same.rf (fun Q2 h2 => c_rstepB p3 p1 hpl (fun _ => h2 _ _ rs0) (fun k j v hk hj ex ei ew hv hb => absurd ⟨by rw [p2, ex]; exact inB_y hk (by omega), fun k' hk' ex' => ?_, by rw [ew]; exact inB_y hv (by decide)⟩ z))) (fun k j v hk hj ex ei ew hv hb => qq h hQ Same.rf (fun Q2 h2 => c_rstepB p3 p1 hpl (fun z => absurd ⟨by rw [ex]; exact inB_y hk (by omega), fun k' hk' ex' => ?_, by rw [ew]; exact inB_y hv (by decide)⟩ z) (fun k' j' v' hk' hj' ex' ei' ew' hv' hb' => ?_)))
  · obtain rfl := nI_j ex' ex hk' hk (by omega)
    obtain rfl := nI_j ew' ew hv' hv (by decide)
    obtain rfl := nI_j ei' ei hj' hj (by decide)
    obtain ⟨st, a, b⟩ := p4 k' hk'
    have hs16 := b.2.1
    rw [b.2.2.1] at hb'
    obtain ⟨q, hq, eq⟩ := inB_N (m := st) (by omega) hb'
    obtain rfl := nI_j eq ei' (by omega) hj' (by decide)
    rw [b.2.2.2.1 (q * 3 + v') (by omega)]
    exact h2 _ _ rs0
  · obtain rfl := nI_j ex' ex hk' hk (by omega)
    rw [he k' hk']; exact hb
  · obtain rfl := nI_j ex' ex hk' hk (by omega)
    rw [← he k' hk']; exact hb
end SIMQ
