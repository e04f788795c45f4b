/-! A FORT'S TEXT on both sides -/
theorem smB_le {b : Nat → Nat} {M : Nat} : ∀ (N : Nat), (∀ q, q < N → b q ≤ M) → smB b N ≤ M * N := by
  intro N
  induction N with
  | zero => intro _; exact Nat.zero_le _
  | succ N ih =>
    intro h
    unfold smB
    have h1 := ih (fun q hq => h q (by omega))
    have h2 := h N (by omega)
    rw [Nat.mul_succ]
    omega
theorem nI_cl {x : Int32} (h : 0 ≤ x) : x = nI x.toNatClampNeg := by
  obtain ⟨j, hj, rfl⟩ := nI_of (Int32.not_lt.mpr h)
  rw [nI_clamp hj]
/-- rows as a fort opens -/
theorem RO1.new {n : Nat} {D row w br : Nat → Int32} (hn : n ≤ 7) (hrow : ∀ j, j < 33 → row j = opB (fun _ => 0) br n j) (hw : ∀ j, j < 214 → w j = nwV n br j) (hb : ∀ p, p < n → 0 ≤ br p ∧ br p ≤ 99) : RO1 n D row w 0 := by
  have r0 : ∀ c, c < n → row c = nI c := fun c hc => by
    rw [hrow c (by omega)]; unfold opB; rw [if_pos hc]
  have r7 : ∀ p, p < n → row (7 + p) = br p := fun p hp => by
    rw [hrow _ (by omega)]; unfold opB
    rw [if_neg (show ¬ 7 + p < n by omega), if_pos (show 7 ≤ 7 + p ∧ 7 + p < 7 + n by omega), show 7 + p - 7 = p by omega]
  have rz : ∀ j, 14 ≤ j → j < 33 → row j = 0 := fun j h1 h2 => by
    rw [hrow j h2]; unfold opB
    rw [if_neg (show ¬ j < n by omega), if_neg (show ¬ (7 ≤ j ∧ j < 7 + n) by omega), if_pos h2]
  have w0 : ∀ p, p < n → w (4 * p) = nI p := fun p hp => by
    rw [hw _ (by omega)]; unfold nwV
    rw [if_pos (show 4 * p < 4 * n ∧ 4 * p % 4 = 0 by omega), show 4 * p / 4 = p by omega]
  have w1 : ∀ p, p < n → w (4 * p + 1) = br p := fun p hp => by
    rw [hw _ (by omega)]; unfold nwV
    rw [if_neg (show ¬ (4 * p + 1 < 4 * n ∧ (4 * p + 1) % 4 = 0) by omega), if_pos (show 4 * p + 1 < 4 * n ∧ (4 * p + 1) % 4 = 1 by omega), show (4 * p + 1) / 4 = p by omega]
  have wz : ∀ j, j < 214 → (28 ≤ j ∨ 2 ≤ j % 4) → w j = 0 := fun j h1 h2 => by
    rw [hw j h1]; unfold nwV
    rw [if_neg (show ¬ (j < 4 * n ∧ j % 4 = 0) by omega), if_neg (show ¬ (j < 4 * n ∧ j % 4 = 1) by omega)]
  refine ⟨⟨fun c hc => ⟨c, hc, r0 c hc, w0 c hc⟩, fun p hp => ⟨p, hp, w0 p hp, r0 p hp⟩, fun p hp => by rw [w1 p hp, r7 p hp], fun p hp => by rw [wz _ (by omega) (by omega), rz _ (by omega) (by omega)], by rw [wz 28 (by decide) (by decide), rz 28 (by decide) (by decide)], by rw [wz 29 (by decide) (by decide), rz 30 (by decide) (by decide)], by rw [wz 30 (by decide) (by decide), rz 31 (by decide) (by decide)], by rw [wz 31 (by decide) (by decide), rz 29 (by decide) (by decide)], by rw [wz 32 (by decide) (by decide), rz 32 (by decide) (by decide)]⟩, fun p hp => by rw [wz _ (by omega) (by omega), rz _ (by omega) (by omega)], ⟨⟨fun p => (br p).toNatClampNeg, fun p hp => ?_, ?_⟩, 0, by decide, rz 31 (by decide) (by decide)⟩, rz 32 (by decide) (by decide), by decide, ?_, fun i k hi _ => absurd hi (by omega)⟩
  · rw [r7 p hp]
    exact nI_cl (hb p hp).1
  · have := smB_le (b := fun p => (br p).toNatClampNeg) (M := 99) n (fun q hq => ?_)
    · omega
    · have h1 := hb q hq
      have e := nI_cl h1.1
      have h2 := h1.2
      obtain ⟨j, hj, ej⟩ := nI_of (Int32.not_lt.mpr h1.1)
      show (br q).toNatClampNeg ≤ 99
      rw [ej, nI_clamp hj]
      rw [ej, show (99 : Int32) = nI 99 from rfl, nI_leI hj (by decide)] at h2
      exact h2
  · rw [wz 33 (by decide) (by decide)]; rfl
section SIMO
variable {G : ph_G} {d f dr t n ev wi nx kp dy sa L L' lc pc kr sz : Nat} {ar : List Value} {hi hi' hi1 hi2 hi3 hi4 hc hr hc' hr' h0 : Nat → Nat → Int32} {hl : Nat → Nat → Int64} {Q : Option Value → ph_H → Prop} {lw : Option Nat}
theorem JA.opens {p' : Nat} {S : FS} (h : JA hi hi f dr n ev wi nx kp dy sa L lc pc) (e : pFortT (hi 2) L = .inr (p', S)) (hcs : CS dr hi hi2 S) (hop : OpnR dr S.2.1.1 (up2 (tpS hi2 p' (-1)) 1 1 0) hi3) (hq : OpnQ S hi3 hi4) : J hi4 dr f := by
  obtain ⟨⟨a1, a2, a3, a4, a5, a6, a7, a8, a9⟩, aS⟩ := h
  obtain ⟨k1, k2, k3, k4, k5, k6, k7, ks⟩ := hcs
  obtain ⟨o1, o2, o3, o4, o5, o6, o7, o8, oS⟩ := hop
  obtain ⟨q1, q2, q3, q4, q5, q6, q7, q8, q9, q10, qa, qk, q69, q70⟩ := hq
  obtain ⟨⟨f1, f2, f3, f4, f5⟩, m1, m2, m3⟩ := pFortT_ok.2 p' S e
  have hlc := a4.1
  have hpc := a5.1
  have hfd : (f = 3 ∧ dr = 7) ∨ (f = 7 ∧ dr = 3) := a1
  have xx : ∀ a, a ≠ 1 → up2 (tpS hi2 p' (-1)) 1 1 0 a = hi2 a := fun a ha => by rw [up2_o _ _ _ ha, tpS_o _ _ _ ha]
  have x2 : ∀ a, (a < dr ∨ dr + 3 < a) → hi2 a = hi a := fun a ha => ks a (fun z => by simp only [List.mem_cons, List.not_mem_nil, or_false] at z; omega)
  have x3 : ∀ a, a ≠ 0 → a ≠ 39 → a ≠ 48 → a ≠ 54 → a ≠ 55 → a ≠ 56 → a ≠ 57 → a ≠ 1 → hi3 a = hi2 a := fun a b1 b2 b3 b4 b5 b6 b7 b8 => by
    rw [oS a (fun z => by simp only [List.mem_cons, List.not_mem_nil, or_false] at z; omega), xx a b8]
  have d4 : ∀ a, a < 58 → hi4 a = hi3 a := fun a ha => qa a (rsC_lt ha) (fun z => by simp only [List.mem_cons, List.not_mem_nil, or_false] at z; omega)
  have dd : ∀ a, a < 38 → a ≠ 0 → a ≠ 1 → (a < dr ∨ dr + 3 < a) → hi4 a = hi a := fun a b1 b2 b3 b4 => by
    rw [d4 a (by omega), x3 a (by omega) (by omega) (by omega) (by omega) (by omega) (by omega) (by omega) (by omega), x2 a b4]
  have df : ∀ a, dr ≤ a → a ≤ dr + 3 → hi4 a = hi2 a := fun a b1 b2 => by
    rw [d4 a (by omega), x3 a (by omega) (by omega) (by omega) (by omega) (by omega) (by omega) (by omega) (by omega)]
  have d0 : ∀ k, k ≠ 12 → hi4 0 k = hi 0 k := fun k hk => by
    rw [d4 0 (by decide), o8 k hk, xx 0 (by decide), x2 0 (by omega)]
  have r3 : ∀ a, 58 ≤ a → hi3 a = hi a := fun a ha => by
    rw [x3 a (by omega) (by omega) (by omega) (by omega) (by omega) (by omega) (by omega) (by omega), x2 a (by omega)]
  have rr : ∀ a, 58 < a → a ∉ rsC → a ∉ [63, 65, 67, 71] → hi4 a = hi a := fun a b1 b2 b3 => by rw [qa a b2 b3, r3 a (by omega)]
  have rk : ∀ k, k ∉ RtK → hi4 58 k = hi 58 k := fun k hk => by rw [qk k hk, r3 58 (by decide)]
  have ew : S.1 0 = nI (S.1 0).toNatClampNeg := nI_cl (Int32.le_trans (by decide) (f1 0 (by decide)).1)
  have hw : (S.1 0).toNatClampNeg < S.2.1.1 := by
    have hlt := m3
    obtain ⟨j, hj, ej⟩ := nI_of (x := S.1 0) (Int32.not_lt.mpr (Int32.le_trans (by decide) (f1 0 (by decide)).1))
    rw [ej, nI_ltI hj (by omega)] at hlt
    rw [ej, nI_clamp hj]
    exact hlt
  have g2 : ∀ c k, c < S.2.1.1 → k < 5 → hi4 (dr + 2) (c * 5 + k) = S.2.1.2 (c * 5 + k) := fun c k b1 b2 => by
    rw [df (dr + 2) (by omega) (by omega)]; exact k5 _ (by omega)
  have g3 : ∀ v k, v < S.2.2.1.1 → k < 2 → hi4 (dr + 3) (v * 2 + k) = S.2.2.1.2 (v * 2 + k) := fun v k b1 b2 => by
    rw [df (dr + 3) (by omega) (by omega)]; exact k6 _ (by omega)
  have g1 : ∀ k, k < 4 → hi4 (dr + 1) k = S.1 k := fun k b1 => by
    rw [df (dr + 1) (by omega) (by omega)]; exact k4 k b1
  refine ⟨S.2.1.1, S.2.2.1.1, (S.1 0).toNatClampNeg, nx, 0, 0, 0, 0, lc, pc, ⟨a1.symm.imp And.symm And.symm, ?_, ⟨?_, q7, by omega, fun j hj => absurd hj (by omega), fun j hj => absurd hj (by omega)⟩, a4.mvf (d0 4 (by decide)) (d0 5 (by decide)) (fun k hk => ⟨dd _ (by omega) (by omega) (by omega) (by omega), dd _ (by omega) (by omega) (by omega) (by omega)⟩) (rk 7 (by decide)) (rk 34 (by decide)) (rr 60 (by decide) (by decide) (by decide)) (rr 61 (by decide) (by decide) (by decide)), a5.mvf (d0 7 (by decide)) (fun k hk => ⟨dd _ (by omega) (by omega) (by omega) (by omega), dd _ (by omega) (by omega) (by omega) (by omega)⟩) (rk 30 (by decide)) (fun j hj => by rw [q69 j hj, r3 69 (by decide)]) (fun j hj => by rw [q70 j hj, r3 70 (by decide)]), ⟨?_, ?_, q1, q2, ?_, Or.inr ⟨m1, f2, m2, f4, hw, ?_, ?_, ?_, ?_, ?_, ?_⟩⟩, ⟨?_, Or.inl ?_⟩, Or.inl ?_, ⟨?_, q9, by decide, fun k hk => absurd hk (by omega), fun p v hp hv => ?_, fun p v hp hv => ?_⟩⟩, ⟨?_, aS.1.2.1, ?_, by decide⟩, q8, ?_, fun _ => 0, rfl, fun i hi' => absurd hi' (by omega), fun i hi' => absurd hi' (by omega)⟩
  · rw [rk 35 (by decide), d0 8 (by decide)]; exact a2
  · rw [d4 1 (by decide), oS 1 (by decide), up2_s, vu_s]; rfl
  · rw [df dr (by omega) (by omega)]; exact k1
  · rw [df dr (by omega) (by omega)]; exact k2
  · rw [g1 0 (by decide)]; exact ew
  · intro k hk; rw [q3 k hk, g1 k hk]
  · intro k hk
    rw [q4 k hk, df (dr + 2) (by omega) (by omega), k5 k hk]
  · intro k hk
    rw [q5 k hk, df (dr + 3) (by omega) (by omega), k6 k hk]
  · intro k hk; rw [g1 k hk]; exact f1 k hk
  · intro c k hc hk; rw [g2 c k hc hk]; exact f3 c k hc hk
  · intro v k hv hk; rw [g3 v k hv hk]; exact f5 v k hv hk
  · rw [q10, d4 0 (by decide), o7]
  · rw [d4 0 (by decide), o7]
  · rw [d4 57 (by decide), o6]
  · rw [d4 54 (by decide), o5]; rfl
  · rw [d4 55 (by decide), (o4 p hp).1, b_0]
    constructor
    · intro z; cases z
    · rintro ⟨k, hk, -⟩; omega
  · rw [d4 56 (by decide), (o4 p hp).2, b_0]
    constructor
    · intro z; cases z
    · rintro ⟨k, hk, -⟩; omega
  · rw [d4 48 (by decide), o2, xx 48 (by decide), x2 48 (by omega)]; exact aS.1.1
  · rw [d4 48 (by decide), o3]; rfl
  · refine RO1.new (br := fun p => S.2.1.2 (p * 5 + 4)) f2 (fun j hj => ?_) q6 (fun p hp => f3 p 4 hp (by decide))
    rw [d4 39 (by decide), o1 j hj]
    unfold opB
    by_cases c1 : j < S.2.1.1
    · rw [if_pos c1, if_pos c1]
    · rw [if_neg c1, if_neg c1]
      by_cases c2 : 7 ≤ j ∧ j < 7 + S.2.1.1
      · rw [if_pos c2, if_pos c2, xx (dr + 2) (by omega)]
        exact k5 ((j - 7) * 5 + 4) (by omega)
      · rw [if_neg c2, if_neg c2]
theorem s_text0 (h : JA hi hi f dr n ev wi nx kp dy sa L lc pc) : Sim G (d + 40) 90 [.ref 0, .int 0] 207 [.ref 58, .int 0] hi hl f dr t := by
  intro Q hQ
  have hfd : (f = 3 ∧ dr = 7) ∨ (f = 7 ∧ dr = 3) := h.1.1
  obtain ⟨hf, hdr, hlc, hpc, -⟩ := h.1.ff
  have hT := h.tk
  refine c_text0 hdr hT (fun p' S hi2 hi3 e hcs hop => hQ _ _ _ _ _ _ (fun Q2 h2 => ?_)) (fun q p' hi2 e hsm => hQ _ _ _ _ _ _ (fun Q2 h2 => ?_))
  · have r3 : ∀ a, 58 ≤ a → hi3 a = hi a := fun a ha => by
      rw [hop.2.2.2.2.2.2.2.2 a (fun z => by simp only [List.mem_cons, List.not_mem_nil, or_false] at z; omega), up2_o _ _ _ (by omega), tpS_o _ _ _ (by omega)]
      exact hcs.2.2.2.2.2.2.2 a (fun z => by simp only [List.mem_cons, List.not_mem_nil, or_false] at z; omega)
    exact c_rtext0 (h.rt.moved (by rw [r3 58 (by decide)]) (r3 59 (by decide))) (fun p S2 hi4 e' hq => by rw [e] at e'; cases e'; exact h2 _ _ _ (h.opens e hcs hop hq)) (fun q hi4 e' _ => by rw [e] at e'; cases e')
  · have h1 := h.dr1 (p := p') (w := nI q) hsm
    have e2 : tpS hi2 p' (nI q) 2 = hi 2 := by rw [tpS_o _ _ _ (by decide)]; exact (hsm.tk hdr.in4.1 hdr.in4.2 hT).2
    have hR := h1.rt
    rw [e2] at hR
    exact c_rtext0 hR (fun _ _ hi3 e' _ => by rw [e] at e'; cases e') (fun q' hi3 e' hrs => h2 _ _ _ (h1.qr hrs).toJ)
theorem s_text {x : Int32} (h : JA hi hi f dr n ev wi nx kp dy sa L lc pc) : Sim G (d + 40) 90 [.ref 0, .int x] 207 [.ref 58, .int x] hi hl f dr t := by
  by_cases hx : inB x 3 = true
  · obtain ⟨j, hj, rfl⟩ := inB_N (m := 3) (by decide) hx
    match j, hj with
    | 0, _ => exact s_text0 h
    | 1, _ => exact s_text1 h
    | 2, _ => exact s_text2 h
  · intro Q hQ
    have hx' : inB x 3 = false := by
      cases hh : inB x 3
      · rfl
      · exact absurd hh hx
    exact c_text_no hx' (qq h hQ Same.rf (fun Q2 h2 => c_rtext_no hx' (h2 _ _ rs0)))
end SIMO
