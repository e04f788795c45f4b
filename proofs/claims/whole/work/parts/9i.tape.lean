/-! THE TAPE on both sides: feeding, ending, faults -/
section SIMT
variable {G : ph_G} {d f dr t n ev wi nx kp dy sa L L' lc pc kr sz : Nat} {ar : List Value} {hi hi' hi1 hi2 hc hr hc' hr' h0 : Nat → Nat → Int32} {hl : Nat → Nat → Int64} {Q : Option Value → ph_H → Prop} {lw : Option Nat}
/-- all but the tape has stayed -/
theorem JO.tape (h : JO hc hr f dr n ev wi sa L lc pc) (hC : ∀ a, a < 58 → a ≠ 1 → a ≠ 2 → hc' a = hc a) (hR : ∀ a, 58 < a → a ≠ 59 → hr' a = hr a) (hK : ∀ k, k ≠ 0 → k ≠ 6 → hr' 58 k = hr 58 k) (hT : JT hc' hr' L') : JO hc' hr' f dr n ev wi sa L' lc pc := by
  obtain ⟨a1, a2, a3, a4, a5, a6, a7, a8, a9⟩ := h
  have hf : f = 3 ∨ f = 7 := a1.imp And.left And.left
  have hpc := a5.1
  have hlc := a4.1
  have c0 : hc' 0 = hc 0 := hC 0 (by decide) (by decide) (by decide)
  refine ⟨a1, by rw [hK 35 (by decide) (by decide), c0]; exact a2, hT, a4.mv c0 (fun k hk => ⟨hC _ (by omega) (by omega) (by omega), hC _ (by omega) (by omega) (by omega)⟩) (hK 7 (by decide) (by decide)) (hK 34 (by decide) (by decide)) (hR 60 (by decide) (by decide)) (hR 61 (by decide) (by decide)), a5.mv c0 (fun k hk => ⟨hC _ (by omega) (by omega) (by omega), hC _ (by omega) (by omega) (by omega)⟩) (hK 30 (by decide) (by decide)) (fun j _ => by rw [hR 69 (by decide) (by decide)]) (fun j _ => by rw [hR 70 (by decide) (by decide)]), a6.mv (hC _ (by omega) (by omega) (by omega)) (hC _ (by omega) (by omega) (by omega)) (hC _ (by omega) (by omega) (by omega)) (hC _ (by omega) (by omega) (by omega)) (hK 26 (by decide) (by decide)) (hK 27 (by decide) (by decide)) (hR 63 (by decide) (by decide)) (hR 65 (by decide) (by decide)) (hR 67 (by decide) (by decide)), a7.mv (by rw [c0]) (hC 43 (by decide) (by decide) (by decide)) (hC 47 (by decide) (by decide) (by decide)) (hK 47 (by decide) (by decide)) (hR 78 (by decide) (by decide)), a8.mv (hC 57 (by decide) (by decide) (by decide)) (hC _ (by omega) (by omega) (by omega)), (a9.mvc (hC 54 (by decide) (by decide) (by decide)) (hC 55 (by decide) (by decide) (by decide)) (hC 56 (by decide) (by decide) (by decide))).mvr (hK 45 (by decide) (by decide)) (hR 75 (by decide) (by decide)) (hR 76 (by decide) (by decide)) (hR 77 (by decide) (by decide))⟩
theorem JA.tape (h : JA hc hr f dr n ev wi nx kp dy sa L lc pc) (hC : ∀ a, a < 58 → a ≠ 1 → a ≠ 2 → hc' a = hc a) (hR : ∀ a, 58 < a → a ≠ 59 → hr' a = hr a) (hK : ∀ k, k ≠ 0 → k ≠ 6 → hr' 58 k = hr 58 k) (hT : JT hc' hr' L') : JA hc' hr' f dr n ev wi nx kp dy sa L' lc pc := ⟨h.1.tape hC hR hK hT, h.2.mv (hC 39 (by decide) (by decide) (by decide)) (hC 45 (by decide) (by decide) (by decide)) (hC 48 (by decide) (by decide) (by decide)) (hC 49 (by decide) (by decide) (by decide)) (hR 71 (by decide) (by decide)) (hR 74 (by decide) (by decide)) (hK 38 (by decide) (by decide))⟩
theorem fdZ_1 {k : Int32 → Int32} {a b c e g : Int32} {z : Nat × (Nat → Int32)} : (fdZ k a b c e g z).1 = z.1 + fdN a b c e g := by
  unfold fdZ fdN
  rw [adA_1, adA_1, adA_1, adA_1, adA_1]
  omega
theorem fdZ_R {a b c e g : Int32} {z y : Nat × (Nat → Int32)} (h : adR z y) : adR (fdZ (fun v => v) a b c e g z) (fdZ e8 a b c e g y) := adA_R (adA_R (adA_R (adA_R (adA_R h))))
theorem s_feed {a b c e g : Int32} (h : JA hi hi f dr n ev wi nx kp dy sa L lc pc) : Sim G (d + 40) 87 [.ref 0, .int a, .int b, .int c, .int e, .int g] 175 [.ref 58, .int a, .int b, .int c, .int e, .int g] hi hl f dr t := by
  intro Q hQ
  obtain ⟨t1, t2, t3, t4, t5⟩ := h.1.2.2.1
  refine c_feed t1 t3 (fun z => qq h hQ Same.rf (fun Q2 h2 => c_rfeed t2 t3 (fun _ => h2 _ _ rs0) (fun z' => absurd z' (by omega)))) (fun z => hQ _ _ _ _ _ _ (fun Q2 h2 => ?_))
  have hR : adR (fdZ (fun v => v) a b c e g (L, hi 2)) (fdZ e8 a b c e g (L, hi 59)) := fdZ_R ⟨rfl, fun j hj => ⟨t4 j hj, t5 j hj⟩⟩
  have hz := fdZ_1 (k := fun v => v) (a := a) (b := b) (c := c) (e := e) (g := g) (z := (L, hi 2))
  have hy := fdZ_1 (k := e8) (a := a) (b := b) (c := c) (e := e) (g := g) (z := (L, hi 59))
  generalize fdZ (fun v => v) a b c e g (L, hi 2) = Z at hR hz h2 ⊢
  refine c_rfeed (L := L) (by rw [show tpL hi Z 58 = hi 58 from rfl]; exact t2) t3 (fun z' => absurd z' (by omega)) (fun _ => ?_)
  rw [show tpL hi Z 59 = hi 59 from rfl]
  generalize fdZ e8 a b c e g (L, hi 59) = Y at hR hy ⊢
  have hz' : Z.1 = L + fdN a b c e g := hz
  have hy' : Y.1 = L + fdN a b c e g := hy
  refine h2 _ _ _ ⟨n, ev, wi, nx, kp, dy, sa, L + fdN a b c e g, lc, pc, h.tape (fun x h1 h2 h3 => ?_) (fun x h1 h2 => ?_) (fun k h1 h2 => ?_) ⟨?_, ?_, by omega, ?_, ?_⟩⟩
  · unfold rtL tpL
    rw [upC_o _ _ (by omega), up2_o _ _ _ (by omega), up2_o _ _ _ (by omega), upC_o _ _ h3, up2_o _ _ _ h2]
  · unfold rtL tpL
    rw [upC_o _ _ h2, up2_o _ _ _ (by omega), up2_o _ _ _ (by omega), upC_o _ _ (by omega), up2_o _ _ _ (by omega)]
  · unfold rtL tpL
    rw [upC_o _ _ (by decide), up2_s, vu_o _ _ h2, up2_s, vu_o _ _ h1, upC_o _ _ (by decide), up2_o _ _ _ (by decide)]
  · show (nI Z.1 : Int32) = _
    rw [hz']
  · show (nI Y.1 : Int32) = _
    rw [hy']
  · intro j hj
    exact (hR.2 j (by omega)).1
  · intro j hj
    exact (hR.2 j (by omega)).2
theorem s_end {x : Int32} (h : JA hi hi f dr n ev wi nx kp dy sa L lc pc) : Sim G (d + 40) 88 [.ref 0, .int x] 176 [.ref 58, .int x] hi hl f dr t := by
  intro Q hQ
  obtain ⟨t1, t2, t3, t4, t5⟩ := h.1.2.2.1
  by_cases c : 0 ≤ x ∧ x ≤ hi 1 1
  · refine c_end ?_
    rw [if_pos c, if_pos c]
    refine hQ _ _ _ _ _ _ (fun Q2 h2 => c_rend (fun z => absurd ⟨c.1, ?_⟩ z) (fun _ _ => ?_))
    · rw [t1] at c
      obtain ⟨j, hj, rfl⟩ := nI_of (Int32.not_lt.mpr c.1)
      have hjL : j ≤ L := (nI_leI hj (by omega)).mp c.2
      refine h2 _ _ _ ⟨n, ev, wi, nx, kp, dy, sa, j, lc, pc, h.tape (fun x h1 h2 h3 => ?_) (fun x h1 h2 => ?_) (fun k h1 h2 => ?_) ⟨rfl, rfl, by omega, fun p hp => t4 p (by omega), fun p hp => t5 p (by omega)⟩⟩
      · rw [up2_o _ _ _ (by omega), up2_o _ _ _ (by omega), up2_o _ _ _ h2]
      · rw [up2_o _ _ _ (by omega), up2_o _ _ _ (by omega), up2_o _ _ _ (by omega)]
      · rw [up2_s, vu_o _ _ h2, up2_s, vu_o _ _ h1, up2_o _ _ _ (by decide)]
    · rw [up2_o _ _ _ (by decide), t2, ← t1]
      exact c.2
  · refine c_end ?_
    rw [if_neg c, if_neg c]
    refine qq h hQ Same.rf (fun Q2 h2 => c_rend (fun _ => h2 _ _ rs0) (fun z0 z1 => absurd ⟨z0, ?_⟩ c))
    rw [t1, ← t2]
    exact z1
/-- the class has moved where nobody looks -/
theorem JA.cm (h : JA hi hi f dr n ev wi nx kp dy sa L lc pc) (hC : CMo f lc pc hi hi1) (h39 : hi1 39 = hi 39) (h45 : hi1 45 = hi 45) (h48 : hi1 48 = hi 48) (h49 : hi1 49 = hi 49) (hge : ∀ a, 58 ≤ a → hi1 a = hi a) : JA hi1 hi1 f dr n ev wi nx kp dy sa L lc pc :=
  ⟨h.1.mv hC ⟨fun a ha => hge a (by revert ha; revert a; decide), fun k _ => by rw [hge 58 (by decide)], fun j _ => by rw [hge 69 (by decide)], fun j _ => by rw [hge 70 (by decide)]⟩, h.2.mv h39 h45 h48 h49 (hge 71 (by decide)) (hge 74 (by decide)) (by rw [hge 58 (by decide)])⟩
theorem tpS_1 {p : Nat} {w : Int32} : tpS hi p w 1 1 = hi 1 1 := by
  unfold tpS
  rw [up2_s, vu_o _ _ (by decide), up2_s, vu_o _ _ (by decide)]
/-- the draft and the reader have moved -/
theorem JA.dr1 {p : Nat} {w : Int32} (h : JA hi hi f dr n ev wi nx kp dy sa L lc pc) (hs : Same [dr, dr + 1, dr + 2, dr + 3] hi hi2) : JA (tpS hi2 p w) (tpS hi2 p w) f dr n ev wi nx kp dy sa L lc pc := by
  have hfd := h.1.1
  obtain ⟨hf, hdr, hlc, hpc, -⟩ := h.1.ff
  have key : ∀ a, a ≠ 1 → (a < dr ∨ dr + 3 < a) → tpS hi2 p w a = hi a := fun a h1 h2 => by
    rw [tpS_o _ _ _ h1]
    exact hs a (fun z => by simp only [List.mem_cons, List.not_mem_nil, or_false] at z; omega)
  refine h.cm ⟨key 0 (by decide) (by omega), ?_, key 2 (by decide) (by omega), ⟨key _ (by omega) (by omega), key _ (by omega) (by omega), key _ (by omega) (by omega), key _ (by omega) (by omega)⟩, fun k hk => ⟨key _ (by omega) (by omega), key _ (by omega) (by omega)⟩, fun k hk => ⟨key _ (by omega) (by omega), key _ (by omega) (by omega)⟩, fun a ha => key a ?_ ?_⟩ (key 39 (by decide) (by omega)) (key 45 (by decide) (by omega)) (key 48 (by decide) (by omega)) (key 49 (by decide) (by omega)) (fun a ha => key a (by omega) (by omega))
  · rw [tpS_1, hs 1 (fun z => by simp only [List.mem_cons, List.not_mem_nil, or_false] at z; omega)]
  · simp only [List.mem_cons, List.not_mem_nil, or_false] at ha
    omega
  · simp only [List.mem_cons, List.not_mem_nil, or_false] at ha
    omega
/-- the next law and the reader have moved -/
theorem JA.lw1 {p s : Nat} {w : Int32} {sg : Nat → Int32} (h : JA hi hi f dr n ev wi nx kp dy sa L lc pc) : JA (tpS (lwB hi (13 + 5 * lc) s sg) p w) (tpS (lwB hi (13 + 5 * lc) s sg) p w) f dr n ev wi nx kp dy sa L lc pc := by
  obtain ⟨hf, hdr, hlc, hpc, -⟩ := h.1.ff
  have hf' : f = 3 ∨ f = 7 := hf
  have key : ∀ a, a ≠ 1 → a ≠ 13 + 5 * lc → a ≠ 13 + 5 * lc + 1 → tpS (lwB hi (13 + 5 * lc) s sg) p w a = hi a := fun a h1 h2 h3 => by
    rw [tpS_o _ _ _ h1]
    unfold lwB
    rw [upC_o _ _ h3, up2_o _ _ _ h2]
  refine h.cm ⟨key 0 (by decide) (by omega) (by omega), ?_, key 2 (by decide) (by omega) (by omega), ⟨key _ (by omega) (by omega) (by omega), key _ (by omega) (by omega) (by omega), key _ (by omega) (by omega) (by omega), key _ (by omega) (by omega) (by omega)⟩, fun k hk => ⟨key _ (by omega) (by omega) (by omega), key _ (by omega) (by omega) (by omega)⟩, fun k hk => ⟨key _ (by omega) (by omega) (by omega), key _ (by omega) (by omega) (by omega)⟩, fun a ha => key a ?_ ?_ ?_⟩ (key 39 (by decide) (by omega) (by omega)) (key 45 (by decide) (by omega) (by omega)) (key 48 (by decide) (by omega) (by omega)) (key 49 (by decide) (by omega) (by omega)) (fun a ha => key a (by omega) (by omega) (by omega))
  · rw [tpS_1]
    unfold lwB
    rw [upC_o _ _ (by omega), up2_o _ _ _ (by omega)]
  · simp only [List.mem_cons, List.not_mem_nil, or_false] at ha
    omega
  · simp only [List.mem_cons, List.not_mem_nil, or_false] at ha
    omega
  · simp only [List.mem_cons, List.not_mem_nil, or_false] at ha
    omega
/-- the next plan and the reader have moved -/
theorem JA.pl1 {p : Nat} {w x : Int32} {F : Nat → Int32} (h : JA hi hi f dr n ev wi nx kp dy sa L lc pc) : JA (tpS (plB hi pc x F) p w) (tpS (plB hi pc x F) p w) f dr n ev wi nx kp dy sa L lc pc := by
  obtain ⟨hf, hdr, hlc, hpc, -⟩ := h.1.ff
  have hf' : f = 3 ∨ f = 7 := hf
  have key : ∀ a, a ≠ 1 → a ≠ 16 + 5 * pc → a ≠ 17 + 5 * pc → tpS (plB hi pc x F) p w a = hi a := fun a h1 h2 h3 => by
    rw [tpS_o _ _ _ h1]
    unfold plB
    rw [upC_o _ _ h3, up2_o _ _ _ h2]
  refine h.cm ⟨key 0 (by decide) (by omega) (by omega), ?_, key 2 (by decide) (by omega) (by omega), ⟨key _ (by omega) (by omega) (by omega), key _ (by omega) (by omega) (by omega), key _ (by omega) (by omega) (by omega), key _ (by omega) (by omega) (by omega)⟩, fun k hk => ⟨key _ (by omega) (by omega) (by omega), key _ (by omega) (by omega) (by omega)⟩, fun k hk => ⟨key _ (by omega) (by omega) (by omega), key _ (by omega) (by omega) (by omega)⟩, fun a ha => key a ?_ ?_ ?_⟩ (key 39 (by decide) (by omega) (by omega)) (key 45 (by decide) (by omega) (by omega)) (key 48 (by decide) (by omega) (by omega)) (key 49 (by decide) (by omega) (by omega)) (fun a ha => key a (by omega) (by omega) (by omega))
  · rw [tpS_1]
    unfold plB
    rw [upC_o _ _ (by omega), up2_o _ _ _ (by omega)]
  · simp only [List.mem_cons, List.not_mem_nil, or_false] at ha
    omega
  · simp only [List.mem_cons, List.not_mem_nil, or_false] at ha
    omega
  · simp only [List.mem_cons, List.not_mem_nil, or_false] at ha
    omega
theorem JA.tk (h : JA hi hi f dr n ev wi nx kp dy sa L lc pc) : TK hi L := ⟨h.1.2.2.1.1, h.1.2.2.1.2.2.1, h.1.2.2.1.2.2.2.1⟩
theorem JA.rt (h : JA hi hi f dr n ev wi nx kp dy sa L lc pc) : RTp hi L (hi 2) := ⟨h.1.2.2.1.2.1, h.1.2.2.1.2.2.1, h.1.2.2.1.2.2.2.1, h.1.2.2.1.2.2.2.2⟩
theorem JA.toJ (h : JA hi hi f dr n ev wi nx kp dy sa L lc pc) : J hi f dr := ⟨n, ev, wi, nx, kp, dy, sa, L, lc, pc, h⟩
theorem s_fault {x : Int32} (h : JA hi hi f dr n ev wi nx kp dy sa L lc pc) : Sim G (d + 40) 89 [.ref 0, .int x] 206 [.ref 58, .int x] hi hl f dr t := by
  intro Q hQ
  obtain ⟨hf, hdr, hlc, hpc, -⟩ := h.1.ff
  have hT := h.tk
  by_cases hx : inB x 3 = true
  · obtain ⟨j, hj, rfl⟩ := inB_N (m := 3) (by decide) hx
    match j, hj with
    | 0, _ =>
      refine c_fault_of hx (fun Q' hQ' => c_fot0 hdr hT (fun p' S' hi2 e hcs => hQ' _ _ (hQ _ _ _ _ _ _ (fun Q2 h2 => ?_))) (fun q p' hi2 e hq hsm => hQ' _ _ (hQ _ _ _ _ _ _ (fun Q2 h2 => ?_))))
      · have h1 := h.dr1 (p := p') (w := -1) hcs.2.2.2.2.2.2.2
        have e2 : tpS hi2 p' (-1) 2 = hi 2 := by rw [tpS_o _ _ _ (by decide)]; exact (hcs.tk hdr hT).2
        have hR := h1.rt
        rw [e2] at hR
        exact c_rfault0 hR (fun _ _ hi3 _ _ hrs => h2 _ _ _ (h1.qr hrs).toJ) (fun q hi3 e' _ => by rw [e] at e'; cases e')
      · have h1 := h.dr1 (p := p') (w := nI q) hsm
        have e2 : tpS hi2 p' (nI q) 2 = hi 2 := by rw [tpS_o _ _ _ (by decide)]; exact (hsm.tk hdr.in4.1 hdr.in4.2 hT).2
        have hR := h1.rt
        rw [e2] at hR
        exact c_rfault0 hR (fun _ _ hi3 e' _ _ => by rw [e] at e'; cases e') (fun q' hi3 e' hrs => by rw [e] at e'; cases e'; exact h2 _ _ _ (h1.qr hrs).toJ)
    | 1, _ =>
      have e04 := h.1.2.2.2.1.2.1
      refine c_fault_of hx (fun Q' hQ' => c_fot1 (by omega) e04 hT (fun p' l sg' e hsg hlen => hQ' _ _ (hQ _ _ _ _ _ _ (fun Q2 h2 => ?_))) (fun q p' sz' sg' e => hQ' _ _ (hQ _ _ _ _ _ _ (fun Q2 h2 => ?_))))
      · have h1 := h.lw1 (p := p') (w := -1) (s := (lwS l).length) (sg := sg')
        have e2 : tpS (lwB hi (13 + 5 * lc) (lwS l).length sg') p' (-1) 2 = hi 2 := by rw [tpS_o _ _ _ (by decide)]; unfold lwB; rw [upC_o _ _ (by omega), up2_o _ _ _ (by omega)]
        have hR := h1.rt
        rw [e2] at hR
        exact c_rfault1 hR (fun _ _ hi3 _ hrs => h2 _ _ _ (h1.qr hrs).toJ) (fun q hi3 e' _ => by rw [e] at e'; cases e')
      · have h1 := h.lw1 (p := p') (w := nI q) (s := sz') (sg := sg')
        have e2 : tpS (lwB hi (13 + 5 * lc) sz' sg') p' (nI q) 2 = hi 2 := by rw [tpS_o _ _ _ (by decide)]; unfold lwB; rw [upC_o _ _ (by omega), up2_o _ _ _ (by omega)]
        have hR := h1.rt
        rw [e2] at hR
        exact c_rfault1 hR (fun _ _ hi3 e' _ => by rw [e] at e'; cases e') (fun q' hi3 e' hrs => by rw [e] at e'; cases e'; exact h2 _ _ _ (h1.qr hrs).toJ)
    | 2, _ =>
      have e07 := h.1.2.2.2.2.1.2.1
      refine c_fault_of hx (fun Q' hQ' => c_fot2 (by omega) e07 hT (fun p' n' P F e hF => hQ' _ _ (hQ _ _ _ _ _ _ (fun Q2 h2 => ?_))) (fun q p' n' F e => hQ' _ _ (hQ _ _ _ _ _ _ (fun Q2 h2 => ?_))))
      · have h1 := h.pl1 (p := p') (w := -1) (x := nI n') (F := F)
        have e2 : tpS (plB hi pc (nI n') F) p' (-1) 2 = hi 2 := by rw [tpS_o _ _ _ (by decide)]; unfold plB; rw [upC_o _ _ (by omega), up2_o _ _ _ (by omega)]
        have hR := h1.rt
        rw [e2] at hR
        exact c_rfault2 hR (fun _ _ _ hi3 _ _ _ hrs => h2 _ _ _ (h1.qr hrs).toJ) (fun q hi3 e' _ => by rw [e] at e'; cases e')
      · have h1 := h.pl1 (p := p') (w := nI q) (x := n') (F := F)
        have e2 : tpS (plB hi pc n' F) p' (nI q) 2 = hi 2 := by rw [tpS_o _ _ _ (by decide)]; unfold plB; rw [upC_o _ _ (by omega), up2_o _ _ _ (by omega)]
        have hR := h1.rt
        rw [e2] at hR
        exact c_rfault2 hR (fun _ _ _ hi3 e' _ _ _ => by rw [e] at e'; cases e') (fun q' hi3 e' hrs => by rw [e] at e'; cases e'; exact h2 _ _ _ (h1.qr hrs).toJ)
  · have hx' : inB x 3 = false := by
      cases hh : inB x 3
      · rfl
      · exact absurd hh hx
    exact c_fault_no hx' (qq h hQ Same.rf (fun Q2 h2 => c_rfault_no hx' (h2 _ _ rs0)))
end SIMT
