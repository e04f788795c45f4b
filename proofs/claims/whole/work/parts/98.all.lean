/-! ALL THAT HOLDS between two calls of the law: hc the class's heap, hr the reference's -/
def JT (hc hr : Nat → Nat → Int32) (L : Nat) : Prop := hc 1 1 = nI L ∧ hr 58 6 = nI L ∧ L ≤ 240 ∧ TpB (hc 2) L ∧ ∀ j, j < L → hr 59 j = (hc 2 j).toInt8.toInt32
def JL1 (hc hr : Nat → Nat → Int32) (k : Nat) : Prop := ∃ L b p l sg, hr 61 k = nI L ∧ L ≤ 240 ∧ TpB b L ∧ (∀ j, j < L → hr 60 (240 * k + j) = (b j).toInt8.toInt32) ∧ pLawT b L = .inr (p, l) ∧ hc (13 + 5 * k + 1) = apL sg 0 (lwS l) ∧ hc (13 + 5 * k) 2 = nI (lwS l).length ∧ (lwS l).length ≤ 241
def JL (hc hr : Nat → Nat → Int32) (lc : Nat) : Prop := lc ≤ 4 ∧ hc 0 4 = nI lc ∧ hr 58 7 = nI lc ∧ hr 58 34 = hc 0 5 ∧ (hc 0 5 = -1 ∨ ∃ k, k < lc ∧ hc 0 5 = nI k) ∧ ∀ k, k < lc → JL1 hc hr k
def JP (hc hr : Nat → Nat → Int32) (pc : Nat) : Prop := pc ≤ 4 ∧ hc 0 7 = nI pc ∧ hr 58 30 = nI pc ∧ ∀ k, k < pc → ∃ st, PlK hc k st (hc (17 + 5 * k)) ∧ PlR hr k st (hc (17 + 5 * k))
def JF (hc hr : Nat → Nat → Int32) (f n ev wi : Nat) : Prop := hc f 3 = nI n ∧ hc f 4 = nI ev ∧ hr 58 26 = nI n ∧ hr 58 27 = nI ev ∧ hc (f + 1) 0 = nI wi ∧ ((n = 0 ∧ ev = 0 ∧ wi = 0) ∨ (2 ≤ n ∧ n ≤ 7 ∧ 1 ≤ ev ∧ ev ≤ 6 ∧ wi < n ∧ (∀ k, k < 4 → hr 63 k = hc (f + 1) k) ∧ (∀ k, k < n * 5 → hr 65 k = hc (f + 2) k) ∧ (∀ k, k < ev * 2 → hr 67 k = hc (f + 3) k) ∧ FoB hc f n ev))
def JI (hc hr : Nat → Nat → Int32) (n : Nat) : Prop := hr 58 47 = hc 0 12 ∧ (hc 0 12 = 0 ∨ ∃ di, RO1 n (hc 47) (hc 43) (hr 78) di)
def JC (hc : Nat → Nat → Int32) (f ev : Nat) : Prop := hc 57 2 = 0 ∨ (hc 57 0 = (tlR (fun e => hc (f + 3) (e * 2 + 1)) ev 0 32 0 0 (2147483647, 0)).1 ∧ hc 57 1 = (tlR (fun e => hc (f + 3) (e * 2 + 1)) ev 0 32 0 0 (2147483647, 0)).2)
def JO (hc hr : Nat → Nat → Int32) (f dr n ev wi sa L lc pc : Nat) : Prop := ((f = 3 ∧ dr = 7) ∨ (f = 7 ∧ dr = 3)) ∧ hr 58 35 = hc 0 8 ∧ JT hc hr L ∧ JL hc hr lc ∧ JP hc hr pc ∧ JF hc hr f n ev wi ∧ JI hc hr n ∧ JC hc f ev ∧ SaR hc hr n ev sa
def JA (hc hr : Nat → Nat → Int32) (f dr n ev wi nx kp dy sa L lc pc : Nat) : Prop := JO hc hr f dr n ev wi sa L lc pc ∧ JS hc hr n nx kp dy
/-- what holds at the law's loop -/
def J (hi : Nat → Nat → Int32) (f dr : Nat) : Prop := ∃ n ev wi nx kp dy sa L lc pc, JA hi hi f dr n ev wi nx kp dy sa L lc pc
/-- the class's side has not moved, but for scenes and acts -/
def CMo (f lc pc : Nat) (hc hc' : Nat → Nat → Int32) : Prop := hc' 0 = hc 0 ∧ hc' 1 1 = hc 1 1 ∧ hc' 2 = hc 2 ∧ (hc' f = hc f ∧ hc' (f + 1) = hc (f + 1) ∧ hc' (f + 2) = hc (f + 2) ∧ hc' (f + 3) = hc (f + 3)) ∧ (∀ k, k < lc → hc' (13 + 5 * k) = hc (13 + 5 * k) ∧ hc' (13 + 5 * k + 1) = hc (13 + 5 * k + 1)) ∧ (∀ k, k < pc → hc' (16 + 5 * k) = hc (16 + 5 * k) ∧ hc' (17 + 5 * k) = hc (17 + 5 * k)) ∧ ∀ a, a ∈ [43, 47, 54, 55, 56, 57] → hc' a = hc a
/-- the reference's side has not moved, but for the same -/
def RMo (hr hr' : Nat → Nat → Int32) : Prop := (∀ a, a ∈ [59, 60, 61, 63, 65, 67, 75, 76, 77, 78] → hr' a = hr a) ∧ (∀ k, k ∈ [6, 7, 26, 27, 30, 34, 35, 45, 47] → hr' 58 k = hr 58 k) ∧ (∀ j, j < 192 → hr' 69 j = hr 69 j) ∧ (∀ j, j < 4 → hr' 70 j = hr 70 j)
section ALL
variable {hc hr hc' hr' hi hi' : Nat → Nat → Int32} {f dr n ev wi nx kp dy sa L lc pc : Nat}
theorem RMo.rf : RMo hr hr := ⟨fun _ _ => rfl, fun _ _ => rfl, fun _ _ => rfl, fun _ _ => rfl⟩
theorem CMo.rf : CMo f lc pc hc hc := ⟨rfl, rfl, rfl, ⟨rfl, rfl, rfl, rfl⟩, fun _ _ => ⟨rfl, rfl⟩, fun _ _ => ⟨rfl, rfl⟩, fun _ _ => rfl⟩
theorem JT.mv (h : JT hc hr L) (h1 : hc' 1 1 = hc 1 1) (h2 : hc' 2 = hc 2) (h6 : hr' 58 6 = hr 58 6) (h59 : hr' 59 = hr 59) : JT hc' hr' L := by
  obtain ⟨a1, a2, a3, a4, a5⟩ := h
  exact ⟨h1.trans a1, h6.trans a2, a3, by rw [h2]; exact a4, fun j hj => by rw [h59, h2]; exact a5 j hj⟩
theorem JL1.mv {k : Nat} (h : JL1 hc hr k) (h1 : hc' (13 + 5 * k) 2 = hc (13 + 5 * k) 2) (h2 : hc' (13 + 5 * k + 1) = hc (13 + 5 * k + 1)) (h60 : ∀ j, j < 240 → hr' 60 (240 * k + j) = hr 60 (240 * k + j)) (h61 : hr' 61 k = hr 61 k) : JL1 hc' hr' k := by
  obtain ⟨L, b, p, l, sg, a1, a2, a3, a4, a5, a6, a7, a8⟩ := h
  exact ⟨L, b, p, l, sg, h61.trans a1, a2, a3, fun j hj => (h60 j (by omega)).trans (a4 j hj), a5, h2.trans a6, h1.trans a7, a8⟩
theorem JL.mv (h : JL hc hr lc) (h0 : hc' 0 = hc 0) (hl : ∀ k, k < lc → hc' (13 + 5 * k) = hc (13 + 5 * k) ∧ hc' (13 + 5 * k + 1) = hc (13 + 5 * k + 1)) (h7 : hr' 58 7 = hr 58 7) (h34 : hr' 58 34 = hr 58 34) (h60 : hr' 60 = hr 60) (h61 : hr' 61 = hr 61) : JL hc' hr' lc := by
  obtain ⟨a1, a2, a3, a4, a5, a6⟩ := h
  exact ⟨a1, by rw [h0]; exact a2, h7.trans a3, by rw [h34, h0]; exact a4, by rw [h0]; exact a5, fun k hk => (a6 k hk).mv (by rw [(hl k hk).1]) (hl k hk).2 (fun j _ => by rw [h60]) (by rw [h61])⟩
theorem JP.mv (h : JP hc hr pc) (h0 : hc' 0 = hc 0) (hp : ∀ k, k < pc → hc' (16 + 5 * k) = hc (16 + 5 * k) ∧ hc' (17 + 5 * k) = hc (17 + 5 * k)) (h30 : hr' 58 30 = hr 58 30) (h69 : ∀ j, j < 192 → hr' 69 j = hr 69 j) (h70 : ∀ j, j < 4 → hr' 70 j = hr 70 j) : JP hc' hr' pc := by
  obtain ⟨a1, a2, a3, a4⟩ := h
  refine ⟨a1, by rw [h0]; exact a2, h30.trans a3, fun k hk => ?_⟩
  obtain ⟨st, b1, b2⟩ := a4 k hk
  refine ⟨st, ?_, ?_⟩
  · obtain ⟨c1, c2, c3, c4⟩ := b1
    exact ⟨c1, c2, by rw [(hp k hk).1]; exact c3, rfl⟩
  · rw [(hp k hk).2]
    exact b2.mv h70 h69
theorem JF.mv (h : JF hc hr f n ev wi) (h1 : hc' f = hc f) (h2 : hc' (f + 1) = hc (f + 1)) (h3 : hc' (f + 2) = hc (f + 2)) (h4 : hc' (f + 3) = hc (f + 3)) (h26 : hr' 58 26 = hr 58 26) (h27 : hr' 58 27 = hr 58 27) (h63 : hr' 63 = hr 63) (h65 : hr' 65 = hr 65) (h67 : hr' 67 = hr 67) : JF hc' hr' f n ev wi := by
  obtain ⟨a1, a2, a3, a4, a5, a6⟩ := h
  refine ⟨by rw [h1]; exact a1, by rw [h1]; exact a2, h26.trans a3, h27.trans a4, by rw [h2]; exact a5, a6.imp id ?_⟩
  intro hb
  obtain ⟨b1, b2, b3, b4, b5, b6, b7, b8, b9, b10, b11⟩ := hb
  refine ⟨b1, b2, b3, b4, b5, ?_, ?_, ?_, ?_, ?_, ?_⟩
  · rw [h63, h2]; exact b6
  · rw [h65, h3]; exact b7
  · rw [h67, h4]; exact b8
  · rw [h2]; exact b9
  · rw [h3]; exact b10
  · rw [h4]; exact b11
theorem JI.mv (h : JI hc hr n) (h0 : hc' 0 12 = hc 0 12) (h43 : hc' 43 = hc 43) (h47 : hc' 47 = hc 47) (hk : hr' 58 47 = hr 58 47) (h78 : hr' 78 = hr 78) : JI hc' hr' n := by
  obtain ⟨a1, a2⟩ := h
  exact ⟨by rw [hk, h0]; exact a1, by rw [h0, h43, h47, h78]; exact a2⟩
theorem JC.mv (h : JC hc f ev) (h57 : hc' 57 = hc 57) (h3 : hc' (f + 3) = hc (f + 3)) : JC hc' f ev := by
  unfold JC
  rw [h57, h3]
  exact h
theorem JO.mv (h : JO hc hr f dr n ev wi sa L lc pc) (hm : CMo f lc pc hc hc') (hq : RMo hr hr') : JO hc' hr' f dr n ev wi sa L lc pc := by
  obtain ⟨a1, a2, a3, a4, a5, a6, a7, a8, a9⟩ := h
  obtain ⟨c0, c1, c2, ⟨f0, f1, f2, f3⟩, cl, cp, cc⟩ := hm
  obtain ⟨ra, rk, r69, r70⟩ := hq
  refine ⟨a1, ?_, a3.mv c1 c2 (rk 6 (by decide)) (ra 59 (by decide)), a4.mv c0 cl (rk 7 (by decide)) (rk 34 (by decide)) (ra 60 (by decide)) (ra 61 (by decide)), a5.mv c0 cp (rk 30 (by decide)) r69 r70, a6.mv f0 f1 f2 f3 (rk 26 (by decide)) (rk 27 (by decide)) (ra 63 (by decide)) (ra 65 (by decide)) (ra 67 (by decide)), a7.mv (by rw [c0]) (cc 43 (by decide)) (cc 47 (by decide)) (rk 47 (by decide)) (ra 78 (by decide)), a8.mv (cc 57 (by decide)) f3, (a9.mvc (cc 54 (by decide)) (cc 55 (by decide)) (cc 56 (by decide))).mvr (rk 45 (by decide)) (ra 75 (by decide)) (ra 76 (by decide)) (ra 77 (by decide))⟩
  rw [rk 35 (by decide), c0]
  exact a2
theorem JS.mv (h : JS hc hr n nx kp dy) (h39 : hc' 39 = hc 39) (h45 : hc' 45 = hc 45) (h48 : hc' 48 = hc 48) (h49 : hc' 49 = hc 49) (h71 : hr' 71 = hr 71) (h74 : hr' 74 = hr 74) (h38 : hr' 58 38 = hr 58 38) : JS hc' hr' n nx kp dy := by
  obtain ⟨⟨a1, a2, a3, a4⟩, b1, b2, ds, d1, d2, d3⟩ := h
  refine ⟨⟨by rw [h48]; exact a1, a2, by rw [h48]; exact a3, a4⟩, h38.trans b1, by rw [h39, h45, h71]; exact b2, ds, d1, d2, fun i hi => ?_⟩
  rw [h45, h49, h74]
  exact d3 i hi
theorem RS.mo (h : RS hr hr') : RMo hr hr' := ⟨fun a ha => h.1 a (by revert ha; revert a; decide), fun k hk => h.2.1 k (by revert hk; revert k; decide), h.2.2.1, h.2.2.2⟩
theorem RaF.mo (h : RaF hr hr') : RMo hr hr' := ⟨fun a ha => h.1 a (by rintro rfl; revert ha; decide) (by rintro rfl; revert ha; decide) (by rintro rfl; revert ha; decide) (by rintro rfl; revert ha; decide) (by rintro rfl; revert ha; decide), fun k hk => h.2 k (by revert hk; revert k; decide) (by rintro rfl; revert hk; decide) (by rintro rfl; revert hk; decide), fun j _ => by rw [h.1 69 (by decide) (by decide) (by decide) (by decide) (by decide)], fun j _ => by rw [h.1 70 (by decide) (by decide) (by decide) (by decide) (by decide)]⟩
theorem JO.ff (h : JO hc hr f dr n ev wi sa L lc pc) : Fok f ∧ Fok dr ∧ lc ≤ 4 ∧ pc ≤ 4 ∧ n ≤ 7 ∧ ev ≤ 6 ∧ L ≤ 240 ∧ wi < 7 ∧ sa ≤ 16 := by
  obtain ⟨a1, a2, a3, a4, a5, a6, a7, a8, a9⟩ := h
  refine ⟨a1.imp And.left And.left, (a1.symm).imp And.right And.right, a4.1, a5.1, ?_, ?_, a3.2.2.1, ?_, a9.2.2.1⟩
  · rcases a6.2.2.2.2.2 with h | h <;> omega
  · rcases a6.2.2.2.2.2 with h | h <;> omega
  · rcases a6.2.2.2.2.2 with h | h <;> omega
/-- a list of cells that belong to nobody's memory -/
theorem Same.cmo {S : List Nat} (h : Same S hc hc') (hf : Fok f) (hl : lc ≤ 4) (hp : pc ≤ 4) (hS : ∀ a, a ∈ S → a ∈ (45 :: 48 :: 49 :: 39 :: scr1)) : CMo f lc pc hc hc' := by
  have key : ∀ a, a ∉ (45 :: 48 :: 49 :: 39 :: scr1) → hc' a = hc a := fun a ha => h a (fun hh => ha (hS a hh))
  refine ⟨key 0 (by decide), by rw [key 1 (by decide)], key 2 (by decide), ?_, ?_, ?_, fun a ha => key a ?_⟩
  · rcases hf with rfl | rfl
    · exact ⟨key 3 (by decide), key 4 (by decide), key 5 (by decide), key 6 (by decide)⟩
    · exact ⟨key 7 (by decide), key 8 (by decide), key 9 (by decide), key 10 (by decide)⟩
  · intro k hk
    match k, hk with
    | 0, _ => exact ⟨key _ (by decide), key _ (by decide)⟩
    | 1, _ => exact ⟨key _ (by decide), key _ (by decide)⟩
    | 2, _ => exact ⟨key _ (by decide), key _ (by decide)⟩
    | 3, _ => exact ⟨key _ (by decide), key _ (by decide)⟩
    | k + 4, hk => omega
  · intro k hk
    match k, hk with
    | 0, _ => exact ⟨key _ (by decide), key _ (by decide)⟩
    | 1, _ => exact ⟨key _ (by decide), key _ (by decide)⟩
    | 2, _ => exact ⟨key _ (by decide), key _ (by decide)⟩
    | 3, _ => exact ⟨key _ (by decide), key _ (by decide)⟩
    | k + 4, hk => omega
  · revert ha; revert a; decide
/-- behind a question to the class -/
theorem JA.qc (h : JA hi hi f dr n ev wi nx kp dy sa L lc pc) (hs : Same scr1 hi hi') : JA hi' hi' f dr n ev wi nx kp dy sa L lc pc := by
  obtain ⟨a1, a2⟩ := h
  obtain ⟨hf, hdr, hlc, hpc, -⟩ := a1.ff
  exact ⟨a1.mv (hs.cmo hf hlc hpc (by decide)) ⟨fun a ha => hs a (by revert ha; revert a; decide), fun k _ => by rw [hs 58 (by decide)], fun j _ => by rw [hs 69 (by decide)], fun j _ => by rw [hs 70 (by decide)]⟩, a2.mv (hs 39 (by decide)) (hs 45 (by decide)) (hs 48 (by decide)) (hs 49 (by decide)) (hs 71 (by decide)) (hs 74 (by decide)) (by rw [hs 58 (by decide)])⟩
/-- what is no cell of the reference's scratch -/
theorem RS.cl (h : RS hi hi') {a : Nat} (ha : a < 58) : hi' a = hi a := h.1 a (by intro hh; simp only [rsC, List.mem_cons, List.not_mem_nil, or_false] at hh; omega)
/-- behind a question to the reference -/
theorem JA.qr (h : JA hi hi f dr n ev wi nx kp dy sa L lc pc) (hs : RS hi hi') : JA hi' hi' f dr n ev wi nx kp dy sa L lc pc := by
  obtain ⟨a1, a2⟩ := h
  obtain ⟨hf, hdr, hlc, hpc, -⟩ := a1.ff
  have c : ∀ a, a < 58 → hi' a = hi a := fun a ha => hs.cl ha
  have hf' : f = 3 ∨ f = 7 := hf
  refine ⟨a1.mv ⟨c 0 (by decide), by rw [c 1 (by decide)], c 2 (by decide), ⟨c _ (by omega), c _ (by omega), c _ (by omega), c _ (by omega)⟩, fun k hk => ⟨c _ (by omega), c _ (by omega)⟩, fun k hk => ⟨c _ (by omega), c _ (by omega)⟩, fun a ha => c a (by revert ha; revert a; decide)⟩ hs.mo, a2.mv (c _ (by decide)) (c _ (by decide)) (c _ (by decide)) (c _ (by decide)) (hs.1 71 (by decide)) (hs.1 74 (by decide)) (hs.2.1 38 (by decide))⟩
/-- the law that holds -/
theorem JL.now (h : JL hi hi lc) : ∃ lw sz, Lawk hi lw sz ∧ LwN hi lw ∧ LwR hi lw sz := by
  obtain ⟨a1, a2, a3, a4, a5, a6⟩ := h
  rcases a5 with e | ⟨k, hk, e⟩
  · exact ⟨none, 0, fun a ha => (by cases ha), Or.inl ⟨rfl, by rw [e]; decide⟩, Or.inl ⟨rfl, a4.trans e⟩⟩
  · obtain ⟨L, b, p, l, sg, b1, b2, b3, b4, b5, b6, b7, b8⟩ := a6 k hk
    refine ⟨some (13 + 5 * k), (lwS l).length, ?_, Or.inr ⟨k, lc, rfl, e, hk, a2, a1⟩, Or.inr ⟨k, L, b, p, l, sg, rfl, by omega, a4.trans e, b1, b2, b3, b4, b5, b6, rfl⟩⟩
    intro a ha
    cases ha
    exact ⟨by unfold Lok; omega, b7, b8⟩
/-- where there is a fort -/
theorem JA.fort (h : JA hi hi f dr n ev wi nx kp dy sa L lc pc) (hn : 0 < n) : ∃ lw sz, RF hi f lw sz n ev wi ∧ OwK hi f lw sz n ev wi nx kp dy (sOf (hi 39)) ∧ CK hi f lw sz n ev wi ∧ 2 ≤ n ∧ 1 ≤ ev := by
  obtain ⟨⟨a1, a2, a3, a4, a5, a6, a7, a8, a9⟩, c1, c2, c3, -⟩ := h
  obtain ⟨b1, b2, b3, b4, b5, b6⟩ := a6
  rcases b6 with b6 | b6
  · omega
  · obtain ⟨e1, e2, e3, e4, e5, e6, e7, e8, e9⟩ := b6
    obtain ⟨lw, sz, l1, l2, l3⟩ := a4.now
    have hf : Fok f := a1.imp And.left And.left
    have hk : FoK hi f n ev wi := ⟨e2, by omega, e4, e5, b1, b2, b5⟩
    have hst : Sit (hi 39) n := c3.1.sit e2
    exact ⟨lw, sz, ⟨hf, hk, ⟨b3, b4, e6, e7, e8⟩, e9, l3⟩, ⟨hf, l1, l2, hk, hst.si, c1, c3.2.2.2.1, c3.2.2.2.2.1⟩, ⟨hf, l1, l2, hk, hst⟩, e1, e3⟩
/-- where there is none -/
theorem JA.none (h : JA hi hi f dr n ev wi nx kp dy sa L lc pc) (hn : n = 0) : hi f 3 = 0 ∧ hi f 4 = 0 ∧ hi 58 26 = 0 ∧ hi 58 27 = 0 ∧ ev = 0 := by
  obtain ⟨⟨a1, a2, a3, a4, a5, a6, a7, a8, a9⟩, -⟩ := h
  obtain ⟨b1, b2, b3, b4, b5, b6⟩ := a6
  rcases b6 with b6 | b6
  · obtain ⟨rfl, rfl, -⟩ := b6
    exact ⟨b1, b2, b3, b4, rfl⟩
  · omega
end ALL
