/-! WHAT ELSE CHANGES on both sides: guards, laws, sayings, codes, undoing, images -/
theorem sa_bit {A B C F F' : Nat → Int32} {sa p0 v0 : Nat} {w z : Int32} (hp0 : p0 < 7) (hv0 : v0 < 32) (h : ∀ p v, p < 7 → v < 32 → (bt (F p) v = true ↔ ∃ k, k < sa ∧ A k = nI p ∧ B k = nI v ∧ C k = z)) (hF1 : w = z → F' = va_up F p0 (F p0 ||| (1 <<< (nI v0 &&& 31)))) (hF2 : ¬ w = z → F' = F) {p v : Nat} (hp : p < 7) (hv : v < 32) : bt (F' p) v = true ↔ ∃ k, k < sa + 1 ∧ va_up A sa (nI p0) k = nI p ∧ va_up B sa (nI v0) k = nI v ∧ va_up C sa w k = z := by
  have e : (∃ k, k < sa + 1 ∧ va_up A sa (nI p0) k = nI p ∧ va_up B sa (nI v0) k = nI v ∧ va_up C sa w k = z) ↔ ((∃ k, k < sa ∧ A k = nI p ∧ B k = nI v ∧ C k = z) ∨ (p0 = p ∧ v0 = v ∧ w = z)) := by
    constructor
    · rintro ⟨k, hk, h1, h2, h3⟩
      by_cases hks : k = sa
      · subst hks
        rw [vu_s] at h1 h2 h3
        exact Or.inr ⟨(nI_eq (by omega) (by omega)).mp h1, (nI_eq (by omega) (by omega)).mp h2, h3⟩
      · rw [vu_o _ _ hks] at h1 h2 h3
        exact Or.inl ⟨k, by omega, h1, h2, h3⟩
    · rintro (⟨k, hk, h1, h2, h3⟩ | ⟨rfl, rfl, rfl⟩)
      · exact ⟨k, by omega, by rw [vu_o _ _ (by omega)]; exact h1, by rw [vu_o _ _ (by omega)]; exact h2, by rw [vu_o _ _ (by omega)]; exact h3⟩
      · exact ⟨sa, by omega, vu_s _ _ _, vu_s _ _ _, vu_s _ _ _⟩
  rw [e, ← h p v hp hv]
  by_cases hw : w = z
  · rw [hF1 hw]
    by_cases hpp : p = p0
    · subst hpp
      rw [vu_s, b_or, b_one hv0 hv, Bool.or_eq_true, decide_eq_true_iff]
      constructor
      · rintro (q | q)
        · exact Or.inl q
        · exact Or.inr ⟨rfl, q.symm, hw⟩
      · rintro (q | ⟨-, q, -⟩)
        · exact Or.inl q
        · exact Or.inr q.symm
    · rw [vu_o _ _ hpp]
      constructor
      · exact Or.inl
      · rintro (q | ⟨q, -⟩)
        · exact q
        · exact absurd q.symm hpp
  · rw [hF2 hw]
    constructor
    · exact Or.inl
    · rintro (q | ⟨-, -, q⟩)
      · exact q
      · exact absurd q hw
section SIMS
variable {G : ph_G} {d f dr t n ev wi nx kp dy sa L lc pc kr sz : Nat} {ar : List Value} {hi hi' hi1 hi2 hc hr hc' hr' h0 : Nat → Nat → Int32} {hl : Nat → Nat → Int64} {Q : Option Value → ph_H → Prop} {lw : Option Nat}
theorem SaR.add {p v : Nat} {w : Int32} (h : SaR hc hr n ev sa) (hn : n ≤ 7) (hev : ev ≤ 6) (hp : p < n) (hv : v < ev) (hsa : sa < 16) (hw : w = 0 ∨ w = 1) (c54 : hc' 54 2 = nI (sa + 1)) (c55 : (w = 1 → hc' 55 = va_up (hc 55) p (hc 55 p ||| (1 <<< (nI v &&& 31)))) ∧ (¬ w = 1 → hc' 55 = hc 55)) (c56 : (w = 0 → hc' 56 = va_up (hc 56) p (hc 56 p ||| (1 <<< (nI v &&& 31)))) ∧ (¬ w = 0 → hc' 56 = hc 56)) (hs : SdP sa p v w hr hr') : SaR hc' hr' n ev (sa + 1) := by
  obtain ⟨a1, a2, a3, a4, a5, a6⟩ := h
  obtain ⟨s1, s2, s3, s4, -, -⟩ := hs
  refine ⟨c54, s1, by omega, fun k hk => ?_, fun p' v' hp' hv' => ?_, fun p' v' hp' hv' => ?_⟩
  · rw [s2, s3, s4]
    by_cases hks : k = sa
    · subst hks
      exact ⟨p, v, hp, hv, vu_s _ _ _, vu_s _ _ _, by rw [vu_s]; exact hw⟩
    · rw [vu_o _ _ hks, vu_o _ _ hks, vu_o _ _ hks]
      exact a4 k (by omega)
  · rw [s2, s3, s4]
    exact sa_bit (by omega) (by omega) a5 c55.1 c55.2 hp' hv'
  · rw [s2, s3, s4]
    exact sa_bit (by omega) (by omega) a6 c56.1 c56.2 hp' hv'
theorem JL.mvf (h : JL hc hr lc) (h04 : hc' 0 4 = hc 0 4) (h05 : hc' 0 5 = hc 0 5) (hl : ∀ k, k < lc → hc' (13 + 5 * k) = hc (13 + 5 * k) ∧ hc' (13 + 5 * k + 1) = hc (13 + 5 * k + 1)) (h7 : hr' 58 7 = hr 58 7) (h34 : hr' 58 34 = hr 58 34) (h60 : hr' 60 = hr 60) (h61 : hr' 61 = hr 61) : JL hc' hr' lc := by
  obtain ⟨a1, a2, a3, a4, a5, a6⟩ := h
  exact ⟨a1, h04.trans a2, h7.trans a3, by rw [h34, h05]; exact a4, by rw [h05]; exact a5, fun k hk => (a6 k hk).mv (by rw [(hl k hk).1]) (hl k hk).2 (fun j _ => by rw [h60]) (by rw [h61])⟩
theorem JP.mvf (h : JP hc hr pc) (h07 : hc' 0 7 = hc 0 7) (hp : ∀ k, k < pc → hc' (16 + 5 * k) = hc (16 + 5 * k) ∧ hc' (17 + 5 * k) = hc (17 + 5 * k)) (h30 : hr' 58 30 = hr 58 30) (h69 : ∀ j, j < 192 → hr' 69 j = hr 69 j) (h70 : ∀ j, j < 4 → hr' 70 j = hr 70 j) : JP hc' hr' pc := by
  obtain ⟨a1, a2, a3, a4⟩ := h
  refine ⟨a1, h07.trans a2, h30.trans a3, fun k hk => ?_⟩
  obtain ⟨st, b1, b2⟩ := a4 k hk
  refine ⟨st, ?_, ?_⟩
  · obtain ⟨c1, c2, c3, c4⟩ := b1
    exact ⟨c1, c2, by rw [(hp k hk).1]; exact c3, rfl⟩
  · rw [(hp k hk).2]
    exact b2.mv h70 h69
def gC : List Nat := [0, 39, 43, 45, 47, 48, 49, 54, 55, 56, 57]
def gR : List Nat := [71, 74, 75, 76, 77, 78]
/-- all else has stayed -/
theorem JO.gen {sa' : Nat} (h : JO hc hr f dr n ev wi sa L lc pc) (hC : ∀ a, a < 58 → a ∉ gC → hc' a = hc a) (h07 : hc' 0 7 = hc 0 7) (hR : ∀ a, 58 < a → a ∉ gR → hr' a = hr a) (hK : ∀ k, k ∈ [6, 7, 26, 27, 30] → hr' 58 k = hr 58 k) (hg : hr' 58 35 = hc' 0 8) (hL : JL hc' hr' lc) (hI : JI hc' hr' n) (hCo : JC hc' f ev) (hS : SaR hc' hr' n ev sa') : JO hc' hr' f dr n ev wi sa' L lc pc := by
  obtain ⟨a1, a2, a3, a4, a5, a6, a7, a8, a9⟩ := h
  have hf : f = 3 ∨ f = 7 := a1.imp And.left And.left
  have hpc := a5.1
  have cc : ∀ a, a < 38 → a ≠ 0 → hc' a = hc a := fun a h1 h2 => hC a (by omega) (fun z => by simp only [gC, List.mem_cons, List.not_mem_nil, or_false] at z; omega)
  refine ⟨a1, hg, a3.mv (by rw [cc 1 (by decide) (by decide)]) (cc 2 (by decide) (by decide)) (hK 6 (by decide)) (hR 59 (by decide) (by decide)), hL, a5.mvf h07 (fun k hk => ⟨cc _ (by omega) (by omega), cc _ (by omega) (by omega)⟩) (hK 30 (by decide)) (fun j _ => by rw [hR 69 (by decide) (by decide)]) (fun j _ => by rw [hR 70 (by decide) (by decide)]), a6.mv (cc _ (by omega) (by omega)) (cc _ (by omega) (by omega)) (cc _ (by omega) (by omega)) (cc _ (by omega) (by omega)) (hK 26 (by decide)) (hK 27 (by decide)) (hR 63 (by decide) (by decide)) (hR 65 (by decide) (by decide)) (hR 67 (by decide) (by decide)), hI, hCo, hS⟩
theorem gC_ne {a : Nat} (h : a ∉ gC) : a ≠ 0 ∧ a ≠ 39 ∧ a ≠ 43 ∧ a ≠ 45 ∧ a ≠ 47 ∧ a ≠ 48 ∧ a ≠ 49 ∧ a ≠ 54 ∧ a ≠ 55 ∧ a ≠ 56 ∧ a ≠ 57 := by
  simp only [gC, List.mem_cons, List.not_mem_nil, or_false] at h
  omega
theorem s_guards {x : Int32} (h : JA hi hi f dr n ev wi nx kp dy sa L lc pc) : Sim G (d + 40) 99 [.ref 0, .int x] 227 [.ref 58, .int x] hi hl f dr t := by
  intro Q hQ
  obtain ⟨hf, hdr, hlc, hpc, -⟩ := h.1.ff
  obtain ⟨-, g1, g2, g3, g4, g5, g6, g7, g8⟩ := h.1
  by_cases c : 0 ≤ x ∧ x ≤ 9 ∧ ¬ x = hi 0 8
  · refine c_guards ?_
    rw [if_pos c, if_pos c]
    refine hQ _ _ _ _ _ _ (fun Q2 h2 => c_rguards ?_)
    have c' : 0 ≤ x ∧ x ≤ 9 ∧ ¬ x = up2 hi 0 8 x 58 35 := by
      rw [up2_o _ _ _ (by decide), g1]; exact c
    rw [if_pos c', if_pos c']
    refine h2 _ _ _ ⟨n, ev, wi, nx, kp, dy, sa, L, lc, pc, h.1.gen (fun a ha hn => ?_) rfl (fun a ha hn => ?_) (fun k hk => ?_) rfl (g3.mvf rfl rfl (fun k hk => ⟨?_, ?_⟩) rfl rfl rfl rfl) (g6.mv rfl rfl rfl rfl rfl) ?_ ((g8.mvc rfl rfl rfl).mvr rfl rfl rfl rfl), h.2.mv rfl rfl rfl rfl rfl rfl rfl⟩
    · have := gC_ne hn
      rw [up2_o _ _ _ (by omega), up2_o _ _ _ (by omega), up2_o _ _ _ (by omega)]
    · rw [up2_o _ _ _ (by omega), up2_o _ _ _ (by omega), up2_o _ _ _ (by omega)]
    · have hk' : k ≠ 35 ∧ k ≠ 34 ∧ k ≠ 0 := by
        simp only [List.mem_cons, List.not_mem_nil, or_false] at hk
        omega
      rw [up2_s, vu_o _ _ hk'.1, up2_s, vu_o _ _ hk'.2.2, up2_o _ _ _ (by decide)]
    · rw [up2_o _ _ _ (by omega), up2_o _ _ _ (by omega), up2_o _ _ _ (by omega)]
    · rw [up2_o _ _ _ (by omega), up2_o _ _ _ (by omega), up2_o _ _ _ (by omega)]
    · rcases hf with rfl | rfl
      · exact g7.mv rfl rfl
      · exact g7.mv rfl rfl
  · refine c_guards ?_
    rw [if_neg c, if_neg c]
    refine qq h hQ Same.rf (fun Q2 h2 => c_rguards ?_)
    rw [← g1] at c
    rw [if_neg c, if_neg c]
    exact h2 _ _ rs0
theorem s_law {x : Int32} (h : JA hi hi f dr n ev wi nx kp dy sa L lc pc) : Sim G (d + 40) 98 [.ref 0, .int x] 226 [.ref 58, .int x] hi hl f dr t := by
  intro Q hQ
  obtain ⟨hf, hdr, hlc, hpc, -⟩ := h.1.ff
  obtain ⟨-, g1, g2, g3, g4, g5, g6, g7, g8⟩ := h.1
  obtain ⟨l1, l2, l3, l4, l5, l6⟩ := g3
  by_cases c : -1 ≤ x ∧ x < hi 0 4
  · refine c_law ?_
    rw [if_pos c, if_pos c]
    refine hQ _ _ _ _ _ _ (fun Q2 h2 => c_rlaw (lc := lc) l3 hlc ?_)
    rw [l2] at c
    rw [if_pos c, if_pos c]
    refine h2 _ _ _ ⟨n, ev, wi, nx, kp, dy, sa, L, lc, pc, h.1.gen (fun a ha hn => ?_) rfl (fun a ha hn => ?_) (fun k hk => ?_) g1 ⟨l1, l2, l3, rfl, ?_, fun k hk => (l6 k hk).mv ?_ ?_ (fun _ _ => rfl) rfl⟩ (g6.mv rfl rfl rfl rfl rfl) ?_ ((g8.mvc rfl rfl rfl).mvr rfl rfl rfl rfl), h.2.mv rfl rfl rfl rfl rfl rfl rfl⟩
    · have := gC_ne hn
      rw [up2_o _ _ _ (by omega), up2_o _ _ _ (by omega), up2_o _ _ _ (by omega)]
    · rw [up2_o _ _ _ (by omega), up2_o _ _ _ (by omega), up2_o _ _ _ (by omega)]
    · have hk' : k ≠ 35 ∧ k ≠ 34 ∧ k ≠ 0 := by
        simp only [List.mem_cons, List.not_mem_nil, or_false] at hk
        omega
      rw [up2_s, vu_o _ _ hk'.2.1, up2_s, vu_o _ _ hk'.2.2, up2_o _ _ _ (by decide)]
    · show x = -1 ∨ ∃ k, k < lc ∧ x = nI k
      by_cases hx : x < 0
      · left
        have c1 := c.1
        rw [Int32.le_iff_toInt_le] at c1
        rw [Int32.lt_iff_toInt_lt] at hx
        apply Int32.toInt_inj.mp
        have e1 : (-1 : Int32).toInt = -1 := by decide
        have e2 : (0 : Int32).toInt = 0 := by decide
        rw [e1] at c1 ⊢
        rw [e2] at hx
        omega
      · obtain ⟨j, hj, rfl⟩ := nI_of hx
        exact Or.inr ⟨j, (nI_ltI hj (by omega)).mp c.2, rfl⟩
    · rw [up2_o _ _ _ (by omega), up2_o _ _ _ (by omega), up2_o _ _ _ (by omega)]
    · rw [up2_o _ _ _ (by omega), up2_o _ _ _ (by omega), up2_o _ _ _ (by omega)]
    · rcases hf with rfl | rfl
      · exact g7.mv rfl rfl
      · exact g7.mv rfl rfl
  · refine c_law ?_
    rw [if_neg c, if_neg c]
    refine qq h hQ Same.rf (fun Q2 h2 => c_rlaw (lc := lc) l3 hlc ?_)
    rw [l2] at c
    rw [if_neg c, if_neg c]
    exact h2 _ _ rs0
theorem s_said {x y w : Int32} (hw : w = 0 ∨ w = 1) (h : JA hi hi f dr n ev wi nx kp dy sa L lc pc) : Sim G (d + 40) 154 [.ref 0, .int x, .int y, .int w] 262 [.ref 58, .int x, .int y, .int w] hi hl f dr t := by
  intro Q hQ
  obtain ⟨hf, hn7, hev6, e3, e4, e26, e27, e0⟩ := h.nn
  obtain ⟨-, g1, g2, g3, g4, g5, g6, g7, g8⟩ := h.1
  have hlc := g3.1
  have hpc := g4.1
  have hs16 := g8.2.2.1
  have e16 : hi 54 2 < 16 ↔ sa < 16 := by rw [g8.1, show (16 : Int32) = nI 16 from rfl, nI_ltI (by omega) (by omega)]
  refine c_said hf hn7 e3 e4 hev6 (fun z => qq h hQ Same.rf (fun Q2 h2 => c_rsaid g8 hn7 hev6 e26 e27 hw (fun _ => h2 _ _ rs0) (fun p v _ hp hv ex ey hs _ => absurd ⟨by rw [e3, ex]; exact inB_y hp (by omega), by rw [e4, ey]; exact inB_y hv (by omega), e16.mpr hs⟩ z))) (fun p v hp hv ex ey hs => hQ _ _ _ _ _ _ (fun Q2 h2 => ?_))
  obtain ⟨hi1, ehi1⟩ : ∃ hi1, hi1 = up2 (if w = 0 then up2 hi 56 p (hi 56 p ||| (1 <<< (nI v &&& 31))) else up2 hi 55 p (hi 55 p ||| (1 <<< (nI v &&& 31)))) 54 2 (hi 54 2 + 1) := ⟨_, rfl⟩
  rw [← ehi1]
  have cne : ∀ a, a ≠ 54 → a ≠ 55 → a ≠ 56 → hi1 a = hi a := fun a h1 h2 h3 => by
    rw [ehi1, up2_o _ _ _ h1]
    split
    · exact up2_o _ _ _ h3
    · exact up2_o _ _ _ h2
  have c54 : hi1 54 2 = nI (sa + 1) := by
    rw [ehi1, up2_s, vu_s, g8.1, nI_1]
  have c55 : (w = 1 → hi1 55 = va_up (hi 55) p (hi 55 p ||| (1 <<< (nI v &&& 31)))) ∧ (¬ w = 1 → hi1 55 = hi 55) := by
    constructor
    · rintro rfl
      rw [ehi1, up2_o _ _ _ (by decide), if_neg (by decide), up2_s]
    · intro hz
      rw [ehi1, up2_o _ _ _ (by decide), if_pos (hw.resolve_right hz), up2_o _ _ _ (by decide)]
  have c56 : (w = 0 → hi1 56 = va_up (hi 56) p (hi 56 p ||| (1 <<< (nI v &&& 31)))) ∧ (¬ w = 0 → hi1 56 = hi 56) := by
    constructor
    · rintro rfl
      rw [ehi1, up2_o _ _ _ (by decide), if_pos rfl, up2_s]
    · intro hz
      rw [ehi1, up2_o _ _ _ (by decide), if_neg hz, up2_o _ _ _ (by decide)]
  have g8' : SaR hi hi1 n ev sa := g8.mvr (by rw [cne 58 (by decide) (by decide) (by decide)]) (cne 75 (by decide) (by decide) (by decide)) (cne 76 (by decide) (by decide) (by decide)) (cne 77 (by decide) (by decide) (by decide))
  refine c_rsaid g8' hn7 hev6 (by rw [cne 58 (by decide) (by decide) (by decide)]; exact e26) (by rw [cne 58 (by decide) (by decide) (by decide)]; exact e27) hw (fun z => absurd ⟨by rw [ex]; exact inB_y hp (by omega), by rw [ey]; exact inB_y hv (by omega), e16.mp hs⟩ z) (fun p' v' hi2 hp' hv' ex' ey' hs' hS => ?_)
  obtain rfl := nI_j ex' ex hp' hp (by omega)
  obtain rfl := nI_j ey' ey hv' hv (by omega)
  obtain ⟨s1, s2, s3, s4, s5, s6⟩ := hS
  have hcl : ∀ a, a < 58 → hi2 a = hi1 a := fun a ha => s5 a (by omega) (by omega) (by omega) (by omega)
  have hcr : ∀ a, 58 < a → a ≠ 75 → a ≠ 76 → a ≠ 77 → hi2 a = hi a := fun a h1 h2 h3 h4 => by rw [s5 a (by omega) h2 h3 h4, cne a (by omega) (by omega) (by omega)]
  have hkk : ∀ k, k ≠ 0 → k ≠ 45 → hi2 58 k = hi 58 k := fun k h1 h2 => by rw [s6 k h1 h2, cne 58 (by decide) (by decide) (by decide)]
  have hcc : ∀ a, a < 58 → a ≠ 54 → a ≠ 55 → a ≠ 56 → hi2 a = hi a := fun a h1 h2 h3 h4 => by rw [hcl a h1, cne a h2 h3 h4]
  have hS' : SaR hi1 hi2 n ev (sa + 1) := g8'.add hn7 hev6 hp hv (e16.mp hs) hw c54 c55 c56 ⟨s1, s2, s3, s4, s5, s6⟩
  have hS2 : SaR hi2 hi2 n ev (sa + 1) := hS'.mvc (hcl 54 (by decide)) (hcl 55 (by decide)) (hcl 56 (by decide))
  have hf' : f = 3 ∨ f = 7 := hf
  have er : (nI (sa + 1) : Int32) = hi 54 2 + 1 := by rw [g8.1, nI_1]
  rw [er]
  refine h2 hi2 hl t ⟨n, ev, wi, nx, kp, dy, sa + 1, L, lc, pc, h.1.gen (fun a ha hn => ?_) (by rw [hcc 0 (by decide) (by decide) (by decide) (by decide)]) (fun a ha hn => ?_) (fun k hk => ?_) (by rw [hkk 35 (by decide) (by decide), hcc 0 (by decide) (by decide) (by decide) (by decide)]; exact g1) (g3.mv (hcc 0 (by decide) (by decide) (by decide) (by decide)) (fun k hk => ⟨hcc _ (by omega) (by omega) (by omega) (by omega), hcc _ (by omega) (by omega) (by omega) (by omega)⟩) (hkk 7 (by decide) (by decide)) (hkk 34 (by decide) (by decide)) (hcr 60 (by decide) (by decide) (by decide) (by decide)) (hcr 61 (by decide) (by decide) (by decide) (by decide))) (g6.mv (by rw [hcc 0 (by decide) (by decide) (by decide) (by decide)]) (hcc 43 (by decide) (by decide) (by decide) (by decide)) (hcc 47 (by decide) (by decide) (by decide) (by decide)) (hkk 47 (by decide) (by decide)) (hcr 78 (by decide) (by decide) (by decide) (by decide))) (g7.mv (hcc 57 (by decide) (by decide) (by decide) (by decide)) (hcc _ (by omega) (by omega) (by omega) (by omega))) hS2, h.2.mv (hcc 39 (by decide) (by decide) (by decide) (by decide)) (hcc 45 (by decide) (by decide) (by decide) (by decide)) (hcc 48 (by decide) (by decide) (by decide) (by decide)) (hcc 49 (by decide) (by decide) (by decide) (by decide)) (hcr 71 (by decide) (by decide) (by decide) (by decide)) (hcr 74 (by decide) (by decide) (by decide) (by decide)) (hkk 38 (by decide) (by decide))⟩
  · have := gC_ne hn
    exact hcc a ha (by omega) (by omega) (by omega)
  · simp only [gR, List.mem_cons, List.not_mem_nil, or_false] at hn
    exact hcr a ha (by omega) (by omega) (by omega)
  · exact hkk k (by rintro rfl; revert hk; decide) (by rintro rfl; revert hk; decide)
theorem s_codes {w : Int32} (h : JA hi hi f dr n ev wi nx kp dy sa L lc pc) : Sim G (d + 40) 149 [.ref 0, .int w] 261 [.ref 58, .int w] hi hl f dr t := by
  intro Q hQ
  obtain ⟨hf, hn7, hev6, e3, e4, e26, e27, e0⟩ := h.nn
  rcases Nat.eq_zero_or_pos n with hn | hn
  · obtain ⟨z3, z4, z26, z27, -⟩ := h.none hn
    exact c_codes hf hev6 e4 (fun z => qq h hQ Same.rf (fun Q2 h2 => c_rcodes0 z26 (h2 _ _ rs0))) (fun z => absurd z (by rw [z3]; decide))
  · obtain ⟨lw, sz, hF, hO, hk, hn2, hev1⟩ := h.fort hn
    obtain ⟨-, g1, g2, g3, g4, g5, g6, g7, g8⟩ := h.1
    have hlc := g3.1
    have hpc := g4.1
    have hf' : f = 3 ∨ f = 7 := hf
    refine c_codes hf hev6 e4 (fun z => qq h hQ Same.rf (fun Q2 h2 => c_rcodes hF (fun _ => h2 _ _ rs0) (fun w0 w1 => absurd ⟨of_decide_eq_true (hf3 hF), w0, w1⟩ z))) (fun _ w0 w1 => hQ _ _ _ _ _ _ (fun Q2 h2 => ?_))
    have hne : ∀ a, a ≠ 57 → seaH hi f ev a = hi a := fun a ha => by
      unfold seaH
      split
      · rw [up2_o _ _ _ ha, cbH_o _ _ ha]
      · rfl
    have h0 : seaH hi f ev 57 0 = (tlR (fun e => hi (f + 3) (e * 2 + 1)) ev 0 32 0 0 (2147483647, 0)).1 ∧ seaH hi f ev 57 1 = (tlR (fun e => hi (f + 3) (e * 2 + 1)) ev 0 32 0 0 (2147483647, 0)).2 := by
      unfold seaH
      split
      · exact ⟨rfl, rfl⟩
      · rename_i hz
        exact g7.resolve_left hz
    generalize seaH hi f ev = hi1 at hne h0 h2 ⊢
    have hfl : FLs f lw hi hi1 := ⟨hne _ (by omega), hne _ (by omega), hne _ (by omega), hne _ (by omega), fun a ha => by
      have hl' := (hk.2.1 a ha).1
      unfold Lok at hl'
      exact ⟨hne a (by omega), hne (a + 1) (by omega)⟩⟩
    have h1 : JA hi1 hi1 f dr n ev wi nx kp dy sa L lc pc := by
      refine ⟨h.1.gen (fun a ha hn => hne a (gC_ne hn).2.2.2.2.2.2.2.2.2.2) (by rw [hne 0 (by decide)]) (fun a ha hn => hne a (by omega)) (fun k hk => by rw [hne 58 (by decide)]) (by rw [hne 58 (by decide), hne 0 (by decide)]; exact g1) (g3.mv (hne 0 (by decide)) (fun k hk => ⟨hne _ (by omega), hne _ (by omega)⟩) (by rw [hne 58 (by decide)]) (by rw [hne 58 (by decide)]) (hne 60 (by decide)) (hne 61 (by decide))) (g6.mv (by rw [hne 0 (by decide)]) (hne 43 (by decide)) (hne 47 (by decide)) (by rw [hne 58 (by decide)]) (hne 78 (by decide))) (Or.inr ?_) ((g8.mvc (hne 54 (by decide)) (hne 55 (by decide)) (hne 56 (by decide))).mvr (by rw [hne 58 (by decide)]) (hne 75 (by decide)) (hne 76 (by decide)) (hne 77 (by decide))), h.2.mv (hne 39 (by decide)) (hne 45 (by decide)) (hne 48 (by decide)) (hne 49 (by decide)) (hne 71 (by decide)) (hne 74 (by decide)) (by rw [hne 58 (by decide)])⟩
      rw [hne (f + 3) (by omega)]
      exact h0
    have hF1 : RF hi1 f lw sz n ev wi := hF.mv hfl (hne 60 (by decide)) (hne 61 (by decide)) (hne 63 (by decide)) (hne 65 (by decide)) (hne 67 (by decide)) (by rw [hne 58 (by decide)]) (by rw [hne 58 (by decide)]) (by rw [hne 58 (by decide)])
    refine c_rcodes hF1 (fun z => absurd ⟨w0, w1⟩ z) (fun _ _ hi2 hrs => ?_)
    rw [hne (f + 3) (by omega), ← h0.1, ← h0.2]
    exact h2 hi2 hl t ⟨n, ev, wi, nx, kp, dy, sa, L, lc, pc, h1.qr hrs⟩
end SIMS
