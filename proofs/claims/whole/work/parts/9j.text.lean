/-! TEXTS of laws and plans on both sides -/
theorem rsC_lt {a : Nat} (h : a < 58) : a ∉ rsC := fun z => by
  simp only [rsC, List.mem_cons, List.not_mem_nil, or_false] at z
  omega
section SIMX
variable {G : ph_G} {d f dr t n ev wi nx kp dy sa L L' lc pc kr sz : Nat} {ar : List Value} {hi hi' hi1 hi2 hc hr hc' hr' h0 : Nat → Nat → Int32} {hl : Nat → Nat → Int64} {Q : Option Value → ph_H → Prop} {lw : Option Nat}
/-- a law more -/
theorem JA.law {p' : Nat} {l : List Cl} {sg' : Nat → Int32} (h : JA hi hi f dr n ev wi nx kp dy sa L lc pc) (hlc4 : lc < 4) (e : pLawT (hi 2) L = .inr (p', l)) (hsg : sg' = apL (hi (13 + 5 * lc + 1)) 0 (lwS l)) (hlen : (lwS l).length ≤ 241) (e1 : hi1 = up2 (up2 (tpS (lwB hi (13 + 5 * lc) (lwS l).length sg') p' (-1)) 1 1 0) 0 4 (nI (lc + 1))) (hq : LwQ lc L hi1 hi2) : JA hi2 hi2 f dr n ev wi nx kp dy sa 0 (lc + 1) pc := by
  obtain ⟨q1, q2, q3, q4, q5, q6, q7, q8, q9, q10⟩ := hq
  obtain ⟨⟨a1, a2, a3, a4, a5, a6, a7, a8, a9⟩, aS⟩ := h
  obtain ⟨t1, t2, t3, t4, t5⟩ := a3
  obtain ⟨l1, l2, l3, l4, l5, l6⟩ := a4
  have hpc := a5.1
  have hf : f = 3 ∨ f = 7 := a1.imp And.left And.left
  have c1 : ∀ a, a ≠ 0 → a ≠ 1 → a ≠ 13 + 5 * lc → a ≠ 13 + 5 * lc + 1 → hi1 a = hi a := fun a h0 h1 h2 h3 => by
    rw [e1, up2_o _ _ _ h0, up2_o _ _ _ h1, tpS_o _ _ _ h1]
    unfold lwB
    rw [upC_o _ _ h3, up2_o _ _ _ h2]
  have c0 : ∀ k, k ≠ 4 → hi1 0 k = hi 0 k := fun k hk => by
    rw [e1, up2_s, vu_o _ _ hk, up2_o _ _ _ (by decide), tpS_o _ _ _ (by decide)]
    unfold lwB
    rw [upC_o _ _ (by omega), up2_o _ _ _ (by omega)]
  have c04 : hi1 0 4 = nI (lc + 1) := by rw [e1, up2_s, vu_s]
  have c11 : hi1 1 1 = 0 := by rw [e1, up2_o _ _ _ (by decide), up2_s, vu_s]
  have cla : hi1 (13 + 5 * lc) 2 = nI (lwS l).length := by
    rw [e1, up2_o _ _ _ (by omega), up2_o _ _ _ (by omega), tpS_o _ _ _ (by omega)]
    unfold lwB
    rw [upC_o _ _ (by omega), up2_s, vu_s]
  have csg : hi1 (13 + 5 * lc + 1) = sg' := by
    rw [e1, up2_o _ _ _ (by omega), up2_o _ _ _ (by omega), tpS_o _ _ _ (by omega)]
    unfold lwB
    rw [upC_s]
  have d1 : ∀ a, a < 58 → hi2 a = hi1 a := fun a ha => q7 a (rsC_lt ha) (by omega) (by omega)
  have dd : ∀ a, a < 58 → a ≠ 0 → a ≠ 1 → a ≠ 13 + 5 * lc → a ≠ 13 + 5 * lc + 1 → hi2 a = hi a := fun a h h0 h1 h2 h3 => (d1 a h).trans (c1 a h0 h1 h2 h3)
  have d0 : ∀ k, k ≠ 4 → hi2 0 k = hi 0 k := fun k hk => by rw [d1 0 (by decide), c0 k hk]
  have rr : ∀ a, a ∉ rsC → a ≠ 60 → a ≠ 61 → 58 < a → hi2 a = hi a := fun a h1 h2 h3 h4 => (q7 a h1 h2 h3).trans (c1 a (by omega) (by omega) (by omega) (by omega))
  have rk : ∀ k, k ∉ rsK → k ≠ 6 → k ≠ 7 → hi2 58 k = hi 58 k := fun k h1 h2 h3 => by rw [q8 k h1 h2 h3, c1 58 (by decide) (by decide) (by omega) (by omega)]
  refine ⟨⟨a1, ?_, ⟨?_, q1, by omega, fun j hj => absurd hj (by omega), fun j hj => absurd hj (by omega)⟩, ⟨by omega, ?_, q2, ?_, ?_, fun k hk => ?_⟩, a5.mvf (d0 7 (by decide)) (fun k hk => ⟨dd _ (by omega) (by omega) (by omega) (by omega) (by omega), dd _ (by omega) (by omega) (by omega) (by omega) (by omega)⟩) (rk 30 (by decide) (by decide) (by decide)) (fun j hj => by rw [q9 j hj, c1 69 (by decide) (by decide) (by omega) (by omega)]) (fun j hj => by rw [q10 j hj, c1 70 (by decide) (by decide) (by omega) (by omega)]), a6.mv (dd _ (by omega) (by omega) (by omega) (by omega) (by omega)) (dd _ (by omega) (by omega) (by omega) (by omega) (by omega)) (dd _ (by omega) (by omega) (by omega) (by omega) (by omega)) (dd _ (by omega) (by omega) (by omega) (by omega) (by omega)) (rk 26 (by decide) (by decide) (by decide)) (rk 27 (by decide) (by decide) (by decide)) (rr 63 (by decide) (by decide) (by decide) (by decide)) (rr 65 (by decide) (by decide) (by decide) (by decide)) (rr 67 (by decide) (by decide) (by decide) (by decide)), a7.mv (d0 12 (by decide)) (dd 43 (by decide) (by decide) (by decide) (by omega) (by omega)) (dd 47 (by decide) (by decide) (by decide) (by omega) (by omega)) (rk 47 (by decide) (by decide) (by decide)) (rr 78 (by decide) (by decide) (by decide) (by decide)), a8.mv (dd 57 (by decide) (by decide) (by decide) (by omega) (by omega)) (dd _ (by omega) (by omega) (by omega) (by omega) (by omega)), (a9.mvc (dd 54 (by decide) (by decide) (by decide) (by omega) (by omega)) (dd 55 (by decide) (by decide) (by decide) (by omega) (by omega)) (dd 56 (by decide) (by decide) (by decide) (by omega) (by omega))).mvr (rk 45 (by decide) (by decide) (by decide)) (rr 75 (by decide) (by decide) (by decide) (by decide)) (rr 76 (by decide) (by decide) (by decide) (by decide)) (rr 77 (by decide) (by decide) (by decide) (by decide))⟩, aS.mv (dd 39 (by decide) (by decide) (by decide) (by omega) (by omega)) (dd 45 (by decide) (by decide) (by decide) (by omega) (by omega)) (dd 48 (by decide) (by decide) (by decide) (by omega) (by omega)) (dd 49 (by decide) (by decide) (by decide) (by omega) (by omega)) (rr 71 (by decide) (by decide) (by decide) (by decide)) (rr 74 (by decide) (by decide) (by decide) (by decide)) (rk 38 (by decide) (by decide) (by decide))⟩
  · rw [rk 35 (by decide) (by decide) (by decide), d0 8 (by decide)]; exact a2
  · rw [d1 1 (by decide), c11]; rfl
  · rw [d1 0 (by decide), c04]
  · rw [rk 34 (by decide) (by decide) (by decide), d0 5 (by decide)]; exact l4
  · rw [d0 5 (by decide)]
    rcases l5 with z | ⟨k, hk, z⟩
    · exact Or.inl z
    · exact Or.inr ⟨k, by omega, z⟩
  · by_cases hkl : k = lc
    · subst hkl
      refine ⟨L, hi 2, p', l, hi (13 + 5 * k + 1), q5, t3, t4, fun j hj => ?_, e, ?_, ?_, hlen⟩
      · rw [q3 j hj, c1 59 (by decide) (by decide) (by omega) (by omega)]
        exact t5 j hj
      · rw [d1 _ (by omega), csg, hsg]
      · rw [d1 _ (by omega), cla]
    · refine (l6 k (by omega)).mv ?_ (dd _ (by omega) (by omega) (by omega) (by omega) (by omega)) (fun j hj => ?_) ?_
      · rw [dd _ (by omega) (by omega) (by omega) (by omega) (by omega)]
      · rw [q4 _ (by omega), c1 60 (by decide) (by decide) (by omega) (by omega)]
      · rw [q6 k hkl, c1 61 (by decide) (by decide) (by omega) (by omega)]
theorem s_text1 (h : JA hi hi f dr n ev wi nx kp dy sa L lc pc) : Sim G (d + 40) 90 [.ref 0, .int 1] 207 [.ref 58, .int 1] hi hl f dr t := by
  intro Q hQ
  obtain ⟨hf, hdr, hlc, hpc, -⟩ := h.1.ff
  have hT := h.tk
  have e04 := h.1.2.2.2.1.2.1
  have e7 := h.1.2.2.2.1.2.2.1
  have x2 : ∀ (s p : Nat) (w : Int32) (sg : Nat → Int32), tpS (lwB hi (13 + 5 * lc) s sg) p w 2 = hi 2 := fun s p w sg => by rw [tpS_o _ _ _ (by decide)]; unfold lwB; rw [upC_o _ _ (by omega), up2_o _ _ _ (by omega)]
  have x7 : ∀ (s p : Nat) (w : Int32) (sg : Nat → Int32), tpS (lwB hi (13 + 5 * lc) s sg) p w 58 = hi 58 := fun s p w sg => by rw [tpS_o _ _ _ (by decide)]; unfold lwB; rw [upC_o _ _ (by omega), up2_o _ _ _ (by omega)]
  refine c_text1 (by omega) e04 hT (fun p' l sg' hl4 e hsg hlen => hQ _ _ _ _ _ _ (fun Q2 h2 => ?_)) (fun p' sz' sg' h4 => hQ _ _ _ _ _ _ (fun Q2 h2 => ?_)) (fun q p' sz' sg' e => hQ _ _ _ _ _ _ (fun Q2 h2 => ?_))
  · obtain ⟨hi1, e1⟩ : ∃ hi1, hi1 = up2 (up2 (tpS (lwB hi (13 + 5 * lc) (lwS l).length sg') p' (-1)) 1 1 0) 0 4 (nI (lc + 1)) := ⟨_, rfl⟩
    rw [← e1]
    have c58 : hi1 58 = hi 58 := by rw [e1, up2_o _ _ _ (by decide), up2_o _ _ _ (by decide), x7]
    have c59 : hi1 59 = hi 59 := by
      rw [e1, up2_o _ _ _ (by decide), up2_o _ _ _ (by decide), tpS_o _ _ _ (by decide)]
      unfold lwB
      rw [upC_o _ _ (by omega), up2_o _ _ _ (by omega)]
    exact c_rtext1 (lc := lc) (h.rt.moved (by rw [c58]) c59) (by rw [c58]; exact e7) hlc (fun p l2 hi3 _ e' hq => by rw [e] at e'; cases e'; exact h2 _ _ _ (h.law hl4 e hsg hlen e1 hq).toJ) (fun z => absurd z (by omega)) (fun q hi3 e' _ => by rw [e] at e'; cases e')
  · have h1 := h.lw1 (p := p') (w := -1) (s := sz') (sg := sg')
    have hR := h1.rt
    rw [x2] at hR
    exact c_rtext1 (lc := lc) hR (by rw [x7]; exact e7) hlc (fun p l2 hi3 z _ _ => absurd z (by omega)) (fun _ => h2 _ _ _ (h1.qr rs0).toJ) (fun q hi3 e' hrs => h2 _ _ _ (h1.qr hrs).toJ)
  · have h1 := h.lw1 (p := p') (w := nI q) (s := sz') (sg := sg')
    have hR := h1.rt
    rw [x2] at hR
    exact c_rtext1 (lc := lc) hR (by rw [x7]; exact e7) hlc (fun p l2 hi3 z e' _ => by rw [e] at e'; cases e') (fun _ => h2 _ _ _ (h1.qr rs0).toJ) (fun q hi3 e' hrs => h2 _ _ _ (h1.qr hrs).toJ)
/-- a plan more -/
theorem JA.plan {p' n' : Nat} {P F : Nat → Int32} (h : JA hi hi f dr n ev wi nx kp dy sa L lc pc) (hpc4 : pc < 4) (e : pPlanT (hi 2) L = .inr (p', (n', P))) (hF : ∀ j, j < n' * 3 → F j = P j) (e1 : hi1 = up2 (up2 (tpS (plB hi pc (nI n') F) p' (-1)) 1 1 0) 0 7 (nI (pc + 1))) (hq : PlQ pc n' P hi1 hi2) : JA hi2 hi2 f dr n ev wi nx kp dy sa 0 lc (pc + 1) := by
  obtain ⟨q1, q2, q3, q4, q5, q6, q7, q8⟩ := hq
  obtain ⟨⟨a1, a2, a3, a4, a5, a6, a7, a8, a9⟩, aS⟩ := h
  obtain ⟨p1, p2, p3, p4⟩ := a5
  have hlc := a4.1
  have hok := pPlanT_ok.2 p' (n', P) e
  have hf : f = 3 ∨ f = 7 := a1.imp And.left And.left
  have c1 : ∀ a, a ≠ 0 → a ≠ 1 → a ≠ 16 + 5 * pc → a ≠ 17 + 5 * pc → hi1 a = hi a := fun a h0 h1 h2 h3 => by
    rw [e1, up2_o _ _ _ h0, up2_o _ _ _ h1, tpS_o _ _ _ h1]
    unfold plB
    rw [upC_o _ _ h3, up2_o _ _ _ h2]
  have c0 : ∀ k, k ≠ 7 → hi1 0 k = hi 0 k := fun k hk => by
    rw [e1, up2_s, vu_o _ _ hk, up2_o _ _ _ (by decide), tpS_o _ _ _ (by decide)]
    unfold plB
    rw [upC_o _ _ (by omega), up2_o _ _ _ (by omega)]
  have c07 : hi1 0 7 = nI (pc + 1) := by rw [e1, up2_s, vu_s]
  have c11 : hi1 1 1 = 0 := by rw [e1, up2_o _ _ _ (by decide), up2_s, vu_s]
  have cst : hi1 (16 + 5 * pc) 1 = nI n' := by
    rw [e1, up2_o _ _ _ (by omega), up2_o _ _ _ (by omega), tpS_o _ _ _ (by omega)]
    unfold plB
    rw [upC_o _ _ (by omega), up2_s, vu_s]
  have cF : hi1 (17 + 5 * pc) = F := by
    rw [e1, up2_o _ _ _ (by omega), up2_o _ _ _ (by omega), tpS_o _ _ _ (by omega)]
    unfold plB
    rw [upC_s]
  have d1 : ∀ a, a < 58 → hi2 a = hi1 a := fun a ha => q7 a (rsC_lt ha)
  have dd : ∀ a, a < 58 → a ≠ 0 → a ≠ 1 → a ≠ 16 + 5 * pc → a ≠ 17 + 5 * pc → hi2 a = hi a := fun a h h0 h1 h2 h3 => (d1 a h).trans (c1 a h0 h1 h2 h3)
  have d0 : ∀ k, k ≠ 7 → hi2 0 k = hi 0 k := fun k hk => by rw [d1 0 (by decide), c0 k hk]
  have rr : ∀ a, a ∉ rsC → 58 < a → hi2 a = hi a := fun a h1 h4 => (q7 a h1).trans (c1 a (by omega) (by omega) (by omega) (by omega))
  have rk : ∀ k, k ∉ rsK → k ≠ 6 → k ≠ 30 → hi2 58 k = hi 58 k := fun k h1 h2 h3 => by rw [q8 k h1 h2 h3, c1 58 (by decide) (by decide) (by omega) (by omega)]
  refine ⟨⟨a1, ?_, ⟨?_, q1, by omega, fun j hj => absurd hj (by omega), fun j hj => absurd hj (by omega)⟩, a4.mvf (d0 4 (by decide)) (d0 5 (by decide)) (fun k hk => ⟨dd _ (by omega) (by omega) (by omega) (by omega) (by omega), dd _ (by omega) (by omega) (by omega) (by omega) (by omega)⟩) (rk 7 (by decide) (by decide) (by decide)) (rk 34 (by decide) (by decide) (by decide)) (rr 60 (by decide) (by decide)) (rr 61 (by decide) (by decide)), ⟨by omega, ?_, q2, fun k hk => ?_⟩, a6.mv (dd _ (by omega) (by omega) (by omega) (by omega) (by omega)) (dd _ (by omega) (by omega) (by omega) (by omega) (by omega)) (dd _ (by omega) (by omega) (by omega) (by omega) (by omega)) (dd _ (by omega) (by omega) (by omega) (by omega) (by omega)) (rk 26 (by decide) (by decide) (by decide)) (rk 27 (by decide) (by decide) (by decide)) (rr 63 (by decide) (by decide)) (rr 65 (by decide) (by decide)) (rr 67 (by decide) (by decide)), a7.mv (d0 12 (by decide)) (dd 43 (by decide) (by decide) (by decide) (by omega) (by omega)) (dd 47 (by decide) (by decide) (by decide) (by omega) (by omega)) (rk 47 (by decide) (by decide) (by decide)) (rr 78 (by decide) (by decide)), a8.mv (dd 57 (by decide) (by decide) (by decide) (by omega) (by omega)) (dd _ (by omega) (by omega) (by omega) (by omega) (by omega)), (a9.mvc (dd 54 (by decide) (by decide) (by decide) (by omega) (by omega)) (dd 55 (by decide) (by decide) (by decide) (by omega) (by omega)) (dd 56 (by decide) (by decide) (by decide) (by omega) (by omega))).mvr (rk 45 (by decide) (by decide) (by decide)) (rr 75 (by decide) (by decide)) (rr 76 (by decide) (by decide)) (rr 77 (by decide) (by decide))⟩, aS.mv (dd 39 (by decide) (by decide) (by decide) (by omega) (by omega)) (dd 45 (by decide) (by decide) (by decide) (by omega) (by omega)) (dd 48 (by decide) (by decide) (by decide) (by omega) (by omega)) (dd 49 (by decide) (by decide) (by decide) (by omega) (by omega)) (rr 71 (by decide) (by decide)) (rr 74 (by decide) (by decide)) (rk 38 (by decide) (by decide) (by decide))⟩
  · rw [rk 35 (by decide) (by decide) (by decide), d0 8 (by decide)]; exact a2
  · rw [d1 1 (by decide), c11]; rfl
  · rw [d1 0 (by decide), c07]
  · by_cases hkp : k = pc
    · subst hkp
      refine ⟨n', ⟨by omega, hok.2.1, by rw [d1 _ (by omega), cst], rfl⟩, ⟨by omega, hok.2.1, q5, fun j hj => ?_, fun i hi' => ?_⟩⟩
      · rw [q3 j hj, d1 _ (by omega), cF, hF j hj]
      · rw [d1 _ (by omega), cF, hF _ (by omega)]
        exact hok.2.2 i hi'
    · obtain ⟨st, b1, b2⟩ := p4 k (by omega)
      refine ⟨st, ⟨b1.1, b1.2.1, by rw [dd _ (by omega) (by omega) (by omega) (by omega) (by omega)]; exact b1.2.2.1, rfl⟩, ?_⟩
      rw [dd _ (by omega) (by omega) (by omega) (by omega) (by omega)]
      obtain ⟨c1', c2', c3', c4', c5'⟩ := b2
      refine ⟨c1', c2', ?_, fun j hj => ?_, c5'⟩
      · rw [q6 k c1' hkp, c1 70 (by decide) (by decide) (by omega) (by omega)]; exact c3'
      · rw [q4 _ (by omega), c1 69 (by decide) (by decide) (by omega) (by omega)]; exact c4' j hj
theorem s_text2 (h : JA hi hi f dr n ev wi nx kp dy sa L lc pc) : Sim G (d + 40) 90 [.ref 0, .int 2] 207 [.ref 58, .int 2] hi hl f dr t := by
  intro Q hQ
  obtain ⟨hf, hdr, hlc, hpc, -⟩ := h.1.ff
  have hT := h.tk
  have e07 := h.1.2.2.2.2.1.2.1
  have e30 := h.1.2.2.2.2.1.2.2.1
  have x2 : ∀ (p : Nat) (w x : Int32) (F : Nat → Int32), tpS (plB hi pc x F) p w 2 = hi 2 := fun p w x F => by rw [tpS_o _ _ _ (by decide)]; unfold plB; rw [upC_o _ _ (by omega), up2_o _ _ _ (by omega)]
  have x7 : ∀ (p : Nat) (w x : Int32) (F : Nat → Int32), tpS (plB hi pc x F) p w 58 = hi 58 := fun p w x F => by rw [tpS_o _ _ _ (by decide)]; unfold plB; rw [upC_o _ _ (by omega), up2_o _ _ _ (by omega)]
  refine c_text2 (by omega) e07 hT (fun p' n' P F hl4 e hF => hQ _ _ _ _ _ _ (fun Q2 h2 => ?_)) (fun p' n' F h4 => hQ _ _ _ _ _ _ (fun Q2 h2 => ?_)) (fun q p' n' F e => hQ _ _ _ _ _ _ (fun Q2 h2 => ?_))
  · obtain ⟨hi1, e1⟩ : ∃ hi1, hi1 = up2 (up2 (tpS (plB hi pc (nI n') F) p' (-1)) 1 1 0) 0 7 (nI (pc + 1)) := ⟨_, rfl⟩
    rw [← e1]
    have c58 : hi1 58 = hi 58 := by rw [e1, up2_o _ _ _ (by decide), up2_o _ _ _ (by decide), x7]
    have c59 : hi1 59 = hi 59 := by
      rw [e1, up2_o _ _ _ (by decide), up2_o _ _ _ (by decide), tpS_o _ _ _ (by decide)]
      unfold plB
      rw [upC_o _ _ (by omega), up2_o _ _ _ (by omega)]
    exact c_rtext2 (k0 := pc) (h.rt.moved (by rw [c58]) c59) (by rw [c58]; exact e30) hpc (fun p n2 P2 hi3 _ e' hq => by rw [e] at e'; cases e'; exact h2 _ _ _ (h.plan hl4 e hF e1 hq).toJ) (fun z => absurd z (by omega)) (fun q hi3 e' _ => by rw [e] at e'; cases e')
  · have h1 := h.pl1 (p := p') (w := -1) (x := n') (F := F)
    have hR := h1.rt
    rw [x2] at hR
    exact c_rtext2 (k0 := pc) hR (by rw [x7]; exact e30) hpc (fun p l2 _ hi3 z _ _ => absurd z (by omega)) (fun _ => h2 _ _ _ (h1.qr rs0).toJ) (fun q hi3 e' hrs => h2 _ _ _ (h1.qr hrs).toJ)
  · have h1 := h.pl1 (p := p') (w := nI q) (x := n') (F := F)
    have hR := h1.rt
    rw [x2] at hR
    exact c_rtext2 (k0 := pc) hR (by rw [x7]; exact e30) hpc (fun p l2 _ hi3 z e' _ => by rw [e] at e'; cases e') (fun _ => h2 _ _ _ (h1.qr rs0).toJ) (fun q hi3 e' hrs => h2 _ _ _ (h1.qr hrs).toJ)
end SIMX
