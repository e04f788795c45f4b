/-! UNDOING AND IMAGES on both sides -/
section SIMB
variable {G : ph_G} {d f dr t n ev wi nx kp dy sa L lc pc kr sz : Nat} {ar : List Value} {hi hi' hi1 hi2 hc hr hc' hr' h0 : Nat → Nat → Int32} {hl : Nat → Nat → Int64} {Q : Option Value → ph_H → Prop} {lw : Option Nat}
theorem s_undo (h : JA hi hi f dr n ev wi nx kp dy sa L lc pc) : Sim G (d + 40) 116 [.ref 0] 246 [.ref 58] hi hl f dr t := by
  intro Q hQ
  obtain ⟨hf, hn7, hev6, e3, e4, e26, e27, e0⟩ := h.nn
  have hkp := h.2.1.2.2.2
  refine c_undo h.2.1 (fun z => qq h hQ Same.rf (fun Q2 h2 => c_rundo hkp h.2.2.1 (fun _ => h2 _ _ rs0) (fun z' => absurd z' (by omega)))) (fun z => hQ _ _ _ _ _ _ (fun Q2 h2 => ?_))
  have hb : ∀ a, a ≠ 39 → a ≠ 48 → bbA hi 39 nx kp a = hi a := fun a h1 h2 => by
    unfold bbA
    rw [upC_o _ _ h1, up2_o _ _ _ h2, up2_o _ _ _ h2]
  refine c_rundo hkp (by rw [hb 58 (by decide) (by decide)]; exact h.2.2.1) (fun z' => absurd z' (by omega)) (fun _ hi2 hR => h2 hi2 hl t ?_)
  obtain ⟨-, -, hlc, hpc, -⟩ := h.1.ff
  have h1 : JA hi (bbA hi 39 nx kp) f dr n ev wi nx kp dy sa L lc pc := h.mv (fun _ _ => rfl) (fun a ha => hb a (by omega) (by omega))
  obtain ⟨dy', hS⟩ := h1.2.undo hn7 z rfl hR
  have hsm : Same [39, 48] hi (bbA hi 39 nx kp) := fun a ha => hb a (fun z => ha (by rw [z]; decide)) (fun z => ha (by rw [z]; decide))
  obtain ⟨r1, r2, r3, r4⟩ := hR
  have hO : JO (bbA hi 39 nx kp) hi2 f dr n ev wi sa L lc pc := h1.1.mv (hsm.cmo hf hlc hpc (by decide)) ⟨fun a ha => r1 a (by rintro rfl; revert ha; decide) (by rintro rfl; revert ha; decide), fun k hk => r2 k (by rintro rfl; revert hk; decide) (by rintro rfl; revert hk; decide), fun j _ => by rw [r1 69 (by decide) (by decide)], fun j _ => by rw [r1 70 (by decide) (by decide)]⟩
  have h3 : JA (bbA hi 39 nx kp) hi2 f dr n ev wi _ _ dy' sa L lc pc := ⟨hO, hS⟩
  exact ⟨n, ev, wi, _, _, dy', sa, L, lc, pc, h3.mv (fun a ha => r1 a (by omega) (by omega)) (fun _ _ => rfl)⟩
theorem d100 {a k : Nat} (hk : k < 3) : a % 100 * 3 + k < 300 := by omega
theorem s_image (h : JA hi hi f dr n ev wi nx kp dy sa L lc pc) : Sim G (d + 40) 117 [.ref 0] 289 [.ref 58] hi hl f dr t := by
  intro Q hQ
  obtain ⟨hf, hn7, hev6, e3, e4, e26, e27, e0⟩ := h.nn
  obtain ⟨hw, hkn, hrk, h33, h32, hdy⟩ := h.rw
  obtain ⟨-, g1, g2, g3, g4, g5, g6, g7, g8⟩ := h.1
  have hlc := g3.1
  have hf' : f = 3 ∨ f = 7 := hf
  refine c_image hf (fun z => qq h hQ Same.rf (fun Q2 h2 => c_rimage (lg := min dy 60) (by omega) h33 (fun _ => h2 _ _ rs0) (fun z' => absurd (show hi 58 26 = 0 from ?_) z'))) (fun z => hQ _ _ _ _ _ _ (fun Q2 h2 => ?_))
  · rw [e3] at z
    rw [e26]
    by_cases hn : 0 < n
    · exact absurd (show (0 : Int32) < nI n from nI_lt (a := 0) hn (by omega)) z
    · rw [show n = 0 by omega]; rfl
  · obtain ⟨hi1, ehi1⟩ : ∃ hi1, hi1 = up2 (upC (upC hi 43 (va_cpy (hi 39) (hi 43) 0 0 33)) 47 (va_cpy (hi 45) (hi 47) 0 0 300)) 0 12 1 := ⟨_, rfl⟩
    rw [← ehi1]
    have cne : ∀ a, a ≠ 0 → a ≠ 43 → a ≠ 47 → hi1 a = hi a := fun a h1 h2 h3 => by
      rw [ehi1, up2_o _ _ _ h1, upC_o _ _ h3, upC_o _ _ h2]
    have c0 : ∀ k, k ≠ 12 → hi1 0 k = hi 0 k := fun k hk => by rw [ehi1, up2_s, vu_o _ _ hk, upC_o _ _ (by decide), upC_o _ _ (by decide)]
    have c12 : hi1 0 12 = 1 := by rw [ehi1, up2_s, vu_s]
    have c43 : hi1 43 = va_cpy (hi 39) (hi 43) 0 0 33 := by rw [ehi1, up2_o _ _ _ (by decide), upC_o _ _ (by decide), upC_s]
    have c47 : hi1 47 = va_cpy (hi 45) (hi 47) 0 0 300 := by rw [ehi1, up2_o _ _ _ (by decide), upC_s]
    refine c_rimage (lg := min dy 60) (by omega) (by rw [cne 71 (by decide) (by decide) (by decide)]; exact h33) (fun z' => absurd z' ?_) (fun _ hi2 hR => ?_)
    · rw [cne 58 (by decide) (by decide) (by decide), e26]
      rw [e3] at z
      intro hz
      rw [hz] at z
      exact absurd z (by decide)
    · obtain ⟨r1, r2, r3, r4⟩ := hR
      have hcc : ∀ a, a < 58 → a ≠ 0 → a ≠ 43 → a ≠ 47 → hi2 a = hi a := fun a h1 h2 h3 h4 => by rw [r1 a (by omega) (by omega), cne a h2 h3 h4]
      have hcr : ∀ a, 58 < a → a ≠ 78 → hi2 a = hi a := fun a h1 h2 => by rw [r1 a (by omega) h2, cne a (by omega) (by omega) (by omega)]
      have hkk : ∀ k, k ≠ 0 → k ≠ 47 → hi2 58 k = hi 58 k := fun k h1 h2 => by rw [r2 k h1 h2, cne 58 (by decide) (by decide) (by decide)]
      have k0 : ∀ k, k ≠ 12 → hi2 0 k = hi 0 k := fun k hk => by rw [r1 0 (by decide) (by decide), c0 k hk]
      rw [cne 71 (by decide) (by decide) (by decide), hw.2.2.2.2.2.2.2.2]
      refine h2 hi2 hl t ⟨n, ev, wi, nx, kp, dy, sa, L, lc, pc, h.1.gen (fun a ha hn => ?_) (k0 7 (by decide)) (fun a ha hn => ?_) (fun k hk => ?_) (by rw [hkk 35 (by decide) (by decide), k0 8 (by decide)]; exact g1) (g3.mvf (k0 4 (by decide)) (k0 5 (by decide)) (fun k hk => ⟨hcc _ (by omega) (by omega) (by omega) (by omega), hcc _ (by omega) (by omega) (by omega) (by omega)⟩) (hkk 7 (by decide) (by decide)) (hkk 34 (by decide) (by decide)) (hcr 60 (by decide) (by decide)) (hcr 61 (by decide) (by decide))) ⟨?_, Or.inr ⟨dy, ?_⟩⟩ (g7.mv (hcc 57 (by decide) (by decide) (by decide) (by decide)) (hcc _ (by omega) (by omega) (by omega) (by omega))) ((g8.mvc (hcc 54 (by decide) (by decide) (by decide) (by decide)) (hcc 55 (by decide) (by decide) (by decide) (by decide)) (hcc 56 (by decide) (by decide) (by decide) (by decide))).mvr (hkk 45 (by decide) (by decide)) (hcr 75 (by decide) (by decide)) (hcr 76 (by decide) (by decide)) (hcr 77 (by decide) (by decide))), h.2.mv (hcc 39 (by decide) (by decide) (by decide) (by decide)) (hcc 45 (by decide) (by decide) (by decide) (by decide)) (hcc 48 (by decide) (by decide) (by decide) (by decide)) (hcc 49 (by decide) (by decide) (by decide) (by decide)) (hcr 71 (by decide) (by decide)) (hcr 74 (by decide) (by decide)) (hkk 38 (by decide) (by decide))⟩
      · have := gC_ne hn
        exact hcc a ha (by omega) (by omega) (by omega)
      · simp only [gR, List.mem_cons, List.not_mem_nil, or_false] at hn
        exact hcr a ha (by omega)
      · exact hkk k (by rintro rfl; revert hk; decide) (by rintro rfl; revert hk; decide)
      · rw [r3, r1 0 (by decide) (by decide), c12]
      · rw [r1 47 (by decide) (by decide), r1 43 (by decide) (by decide), c43, c47]
        exact h.2.2.2.1.ext hn7 (fun j hj => cpy_all hj) (fun j hj => by rw [r4 j hj, cne 71 (by decide) (by decide) (by decide)]) (fun i k _ hk => cpy_all (d100 hk))
theorem s_back (h : JA hi hi f dr n ev wi nx kp dy sa L lc pc) : Sim G (d + 40) 118 [.ref 0] 290 [.ref 58] hi hl f dr t := by
  intro Q hQ
  obtain ⟨hf, hn7, hev6, e3, e4, e26, e27, e0⟩ := h.nn
  obtain ⟨-, g1, g2, g3, g4, g5, g6, g7, g8⟩ := h.1
  have hlc := g3.1
  have hf' : f = 3 ∨ f = 7 := hf
  refine c_back (fun z => qq h hQ Same.rf (fun Q2 h2 => c_rback (fun _ => h2 _ _ rs0) (fun z' => absurd (g6.1.trans z) z'))) (fun z => hQ _ _ _ _ _ _ (fun Q2 h2 => ?_))
  obtain ⟨di, hD⟩ := g6.2.resolve_left z
  obtain ⟨hi1, ehi1⟩ : ∃ hi1, hi1 = up2 (upC (upC hi 39 (va_cpy (hi 43) (hi 39) 0 0 33)) 45 (va_cpy (hi 47) (hi 45) 0 0 300)) 48 2 0 := ⟨_, rfl⟩
  rw [← ehi1]
  have cne : ∀ a, a ≠ 48 → a ≠ 39 → a ≠ 45 → hi1 a = hi a := fun a h1 h2 h3 => by
    rw [ehi1, up2_o _ _ _ h1, upC_o _ _ h3, upC_o _ _ h2]
  have c481 : hi1 48 1 = hi 48 1 := by rw [ehi1, up2_s, vu_o _ _ (by decide), upC_o _ _ (by decide), upC_o _ _ (by decide)]
  have c482 : hi1 48 2 = 0 := by rw [ehi1, up2_s, vu_s]
  have c39 : hi1 39 = va_cpy (hi 43) (hi 39) 0 0 33 := by rw [ehi1, up2_o _ _ _ (by decide), upC_o _ _ (by decide), upC_s]
  have c45 : hi1 45 = va_cpy (hi 47) (hi 45) 0 0 300 := by rw [ehi1, up2_o _ _ _ (by decide), upC_s]
  refine c_rback (fun z' => absurd z' ?_) (fun _ => ⟨min di 60, by omega, by rw [cne 78 (by decide) (by decide) (by decide)]; exact hD.2.2.2.2.2.1, fun hi2 hR => ?_⟩)
  · rw [cne 58 (by decide) (by decide) (by decide), g6.1]
    exact z
  · obtain ⟨r1, r2, r3, r4⟩ := hR
    have hcc : ∀ a, a < 58 → a ≠ 48 → a ≠ 39 → a ≠ 45 → hi2 a = hi a := fun a h1 h2 h3 h4 => by rw [r1 a (by omega) (by omega), cne a h2 h3 h4]
    have hcr : ∀ a, 58 < a → a ≠ 71 → hi2 a = hi a := fun a h1 h2 => by rw [r1 a (by omega) h2, cne a (by omega) (by omega) (by omega)]
    have hkk : ∀ k, k ≠ 0 → k ≠ 38 → hi2 58 k = hi 58 k := fun k h1 h2 => by rw [r2 k h1 h2, cne 58 (by decide) (by decide) (by decide)]
    have k0 : hi2 0 = hi 0 := hcc 0 (by decide) (by decide) (by decide) (by decide)
    have er : hi1 78 32 = va_cpy (hi 43) (hi 39) 0 0 33 32 := by rw [cne 78 (by decide) (by decide) (by decide), cpy_all (by decide)]; exact hD.1.2.2.2.2.2.2.2.2
    rw [er]
    refine h2 hi2 hl t ⟨n, ev, wi, nx, 0, di, sa, L, lc, pc, h.1.gen (fun a ha hn => ?_) (by rw [k0]) (fun a ha hn => ?_) (fun k hk => ?_) (by rw [hkk 35 (by decide) (by decide), k0]; exact g1) (g3.mv k0 (fun k hk => ⟨hcc _ (by omega) (by omega) (by omega) (by omega), hcc _ (by omega) (by omega) (by omega) (by omega)⟩) (hkk 7 (by decide) (by decide)) (hkk 34 (by decide) (by decide)) (hcr 60 (by decide) (by decide)) (hcr 61 (by decide) (by decide))) (g6.mv (by rw [k0]) (hcc 43 (by decide) (by decide) (by decide) (by decide)) (hcc 47 (by decide) (by decide) (by decide) (by decide)) (hkk 47 (by decide) (by decide)) (hcr 78 (by decide) (by decide))) (g7.mv (hcc 57 (by decide) (by decide) (by decide) (by decide)) (hcc _ (by omega) (by omega) (by omega) (by omega))) ((g8.mvc (hcc 54 (by decide) (by decide) (by decide) (by decide)) (hcc 55 (by decide) (by decide) (by decide) (by decide)) (hcc 56 (by decide) (by decide) (by decide) (by decide))).mvr (hkk 45 (by decide) (by decide)) (hcr 75 (by decide) (by decide)) (hcr 76 (by decide) (by decide)) (hcr 77 (by decide) (by decide))), ⟨?_, h.2.1.2.1, ?_, by omega⟩, r3, ?_, fun _ => di, rfl, fun i hi' => absurd hi' (by omega), fun i hi' => absurd hi' (by omega)⟩
    · have := gC_ne hn
      exact hcc a ha (by omega) (by omega) (by omega)
    · simp only [gR, List.mem_cons, List.not_mem_nil, or_false] at hn
      exact hcr a ha (by omega)
    · exact hkk k (by rintro rfl; revert hk; decide) (by rintro rfl; revert hk; decide)
    · rw [r1 48 (by decide) (by decide), c481]; exact h.2.1.1
    · rw [r1 48 (by decide) (by decide), c482]; rfl
    · rw [r1 45 (by decide) (by decide), r1 39 (by decide) (by decide), c39, c45]
      exact hD.ext hn7 (fun j hj => cpy_all hj) (fun j hj => by rw [r4 j hj, cne 78 (by decide) (by decide) (by decide)]) (fun i k _ hk => cpy_all (d100 hk))
end SIMB
