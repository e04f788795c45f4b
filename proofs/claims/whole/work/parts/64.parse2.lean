/-! THE PARSERS of forts and plans, plainly -/
def fU (j k : Nat) : Int32 := (cS.getD (3 * j) ("", [])).2.getD k 0
def fLo (j k : Nat) : Int32 := (cS.getD (3 * j + 1) ("", [])).2.getD k 0
def fHi (j k : Nat) : Int32 := (cS.getD (3 * j + 2) ("", [])).2.getD k 0
def ovl (F : Nat → Int32) (at' n : Nat) (A : Nat → Int32) : Nat → Int32 := fun j => if at' ≤ j ∧ j < at' + n then A (j - at') else F j
theorem ovl_up {F A : Nat → Int32} {at' n k : Nat} {v : Int32} (hk : k < n) : va_up (ovl F at' n A) (at' + k) v = ovl F at' n (va_up A k v) := by
  funext j
  unfold ovl
  by_cases h : j = at' + k
  · subst h
    rw [vu_s, if_pos ⟨by omega, by omega⟩, show at' + k - at' = k by omega, vu_s]
  · rw [vu_o _ _ h]
    by_cases h2 : at' ≤ j ∧ j < at' + n
    · rw [if_pos h2, if_pos h2, vu_o _ _ (by omega)]
    · rw [if_neg h2, if_neg h2]
theorem ovl_in {F A : Nat → Int32} {at' n k : Nat} (hk : k < n) : ovl F at' n A (at' + k) = A k := by
  unfold ovl
  rw [if_pos ⟨by omega, by omega⟩, show at' + k - at' = k by omega]
theorem ovl_out {F A : Nat → Int32} {at' n j : Nat} (hj : j < at' ∨ at' + n ≤ j) : ovl F at' n A j = F j := by
  unfold ovl
  rw [if_neg (by omega)]
theorem hd_ok : ∀ x, x < 32 → ∀ k, k < 5 → hsB (nI x) (nI k) = x.testBit k ∧ (nI x ||| (1 <<< (nI k &&& 31))) = nI (x ||| 2 ^ k) ∧ x ||| 2 ^ k < 32 := by decide +kernel
/-- how many items aren't there yet -/
def unC (j x : Nat) : Nat := ((List.range (cN j)).filter (fun k => !x.testBit k)).length
theorem unC_ok : ∀ j, j < 3 → ∀ x, x < 32 → ∀ k, k < cN j → x.testBit k = false → unC j (x ||| 2 ^ k) < unC j x := by decide +kernel
theorem cN3 : ∀ j, j < 3 → cN j ≤ 5 ∧ 1 ≤ cN j := by decide
section PARSE3
variable (b : Nat → Int32) (L : Nat)
def pNumX (lo hi : Int32) (x : Int32 × Nat × Nat) : PR Int32 := if x.2.1 = 0 ∨ isDg (tat b L x.2.2) = true then pno x.2.2 else if x.1 < lo ∨ hi < x.1 then pno (x.2.2 - 1) else pok x.2.2 x.1
def pNum (lo hi : Int32) (p : Nat) : PR Int32 := pNumX b L lo hi (tpDg b L (-1) 2 0 0 (tpSkip b L p))
def pItems (j : Nat) : Nat → Nat → Nat → (Nat → Int32) → PR (Nat → Int32)
  | 0, p, _, A => pok p A
  | m + 1, p, x, A => if liO j (tat b L (tpSkip b L p)) = -1 then pok (tpSkip b L p) A
    else if x.testBit (liO j (tat b L (tpSkip b L p))).toNatClampNeg = true then pno (tpSkip b L p)
    else pB (pNum b L (fLo j (liO j (tat b L (tpSkip b L p))).toNatClampNeg) (fHi j (liO j (tat b L (tpSkip b L p))).toNatClampNeg) (tpSkip b L p + 1)) (fun p' v => pItems j m p' (x ||| 2 ^ (liO j (tat b L (tpSkip b L p))).toNatClampNeg) (va_up A (liO j (tat b L (tpSkip b L p))).toNatClampNeg v))
/-- a fort: rules, cells, events, whether rules were told -/
abbrev FS : Type := (Nat → Int32) × (Nat × (Nat → Int32)) × (Nat × (Nat → Int32)) × Bool
def fS0 : FS := (fU 0, (0, fun _ => 0), (0, fun _ => 0), false)
def pFCc (q : Nat) (S : FS) (c : Int32) : PR FS :=
  if c = 115 ∧ S.2.2.2 = false then pB (pItems b L 0 5 (q + 1) 0 (fU 0)) (fun p' A => pok p' (A, S.2.1, S.2.2.1, true))
  else if c = 99 ∧ S.2.1.1 < 7 then pB (pItems b L 1 6 (q + 1) 0 (fU 1)) (fun p' A => pok p' (S.1, (S.2.1.1 + 1, ovl S.2.1.2 (S.2.1.1 * 5) 5 A), S.2.2.1, S.2.2.2))
  else if c = 118 ∧ S.2.2.1.1 < 6 then pB (pItems b L 2 3 (q + 1) 0 (fU 2)) (fun p' A => pok p' (S.1, S.2.1, (S.2.2.1.1 + 1, ovl S.2.2.1.2 (S.2.2.1.1 * 2) 2 A), S.2.2.2))
  else pno q
def pFC (p : Nat) (S : FS) : PR FS := pFCc b L (tpSkip b L p) S (tat b L (tpSkip b L p))
def pForts : Nat → Nat → FS → PR FS
  | 0, p, S => pok p S
  | m + 1, p, S => pB (pFC b L p S) (fun p' S' => if tat b L (tpSkip b L p') = 59 then pForts m (tpSkip b L p' + 1) S' else pok (tpSkip b L p') S')
def pFortE (p : Nat) (S : FS) : PR FS := if tat b L (tpSkip b L p) = -1 ∧ 2 ≤ S.2.1.1 ∧ 1 ≤ S.2.2.1.1 ∧ S.1 0 < nI S.2.1.1 then pok (tpSkip b L p) S else pno (tpSkip b L p)
def pFortT : PR FS := pB (pForts b L 240 0 fS0) (pFortE b L)
abbrev S3 : Type := Int32 × Int32 × Int32
def pDig (p : Nat) : PR Int32 := if isDg (tat b L (tpSkip b L p)) = true then pok (tpSkip b L p + 1) (tat b L (tpSkip b L p) - 48) else pno (tpSkip b L p)
def pStep (p : Nat) : PR S3 :=
  if liO 4 (tat b L (tpSkip b L p)) = -1 then pno (tpSkip b L p)
  else if liO 4 (tat b L (tpSkip b L p)) = 0 then pB (pDig b L (tpSkip b L p + 1)) (fun p' x => pok p' (0, x, -1))
  else if liO 4 (tat b L (tpSkip b L p)) = 1 then pB (pDig b L (tpSkip b L p + 1)) (fun p' x => pB (pDig b L p') (fun p'' y => pok p'' (1, x, y)))
  else pok (tpSkip b L p + 1) (liO 4 (tat b L (tpSkip b L p)), -1, -1)
def put3 (P : Nat → Int32) (i : Nat) (s : S3) : Nat → Int32 := va_up (va_up (va_up P (i * 3) s.1) (i * 3 + 1) s.2.1) (i * 3 + 2) s.2.2
/-- the steps of a plan: how many, and their parts -/
def pSteps : Nat → Nat → Nat → (Nat → Int32) → PR (Nat × (Nat → Int32))
  | 0, _, p, P => pok p (0, P)
  | m + 1, i, p, P => pB (pStep b L p) (fun p' s => if ¬ m = 0 ∧ tat b L (tpSkip b L p') = 59 then pSteps m (i + 1) (tpSkip b L p' + 1) (put3 P i s) else pok (tpSkip b L p') (i + 1, put3 P i s))
def pPlanT : PR (Nat × (Nat → Int32)) := pFin b L (pSteps b L 16 0 0 (fun _ => 0))
end PARSE3
section PARSE4
variable {b : Nat → Int32} {L : Nat}
theorem tpDg_v0 {w : Int32} {m p : Nat} (hp : p ≤ L) : ∃ k r, tpDg b L w m 0 0 p = (nI k, r, p + r) ∧ k < 10 ^ r ∧ r ≤ m ∧ p + r ≤ L := by
  obtain ⟨k', r', p', h1, h2, h3, h4, h5, h6⟩ := tpDg_v (b := b) (L := L) (w := w) m 0 0 p hp (by decide)
  refine ⟨k', r', ?_, h2, by omega, by omega⟩
  rw [show (0 : Int32) = nI 0 from rfl, h1, h5]
  congr 2
theorem pNum_ok {lo hi : Int32} {p : Nat} (hp : p ≤ L) : (∀ q, pNum b L lo hi p = .inl q → (tpNe b L (-1) lo hi (tpDg b L (-1) 2 0 0 (tpSkip b L p))).2.2 = nI q ∧ (tpDg b L (-1) 2 0 0 (tpSkip b L p)).2.2 ≤ L ∧ q ≤ L) ∧
    (∀ p' v, pNum b L lo hi p = .inr (p', v) → (tpNe b L (-1) lo hi (tpDg b L (-1) 2 0 0 (tpSkip b L p))).2.2 = -1 ∧ (tpDg b L (-1) 2 0 0 (tpSkip b L p)).2.2 = p' ∧ (tpDg b L (-1) 2 0 0 (tpSkip b L p)).1 = v ∧ p < p' ∧ p' ≤ L ∧ lo ≤ v ∧ v ≤ hi) := by
  have hs := tpSkip_le (b := b) hp
  obtain ⟨k, r, h1, h2, h3, h4⟩ := tpDg_v0 (b := b) (w := -1) (m := 2) hs.2
  unfold pNum
  rw [h1]
  unfold pNumX tpNe
  dsimp only
  rw [tat_here]
  by_cases hd : r = 0 ∨ isDg (tat b L (tpSkip b L p + r)) = true
  · rw [if_pos hd, if_pos hd, tpF_1]
    refine ⟨fun q h => ?_, fun p' v h => ?_⟩
    · cases h
      exact ⟨rfl, h4, h4⟩
    · cases h
  · rw [if_neg hd, if_neg hd]
    by_cases hr : nI k < lo ∨ hi < nI k
    · rw [if_pos hr, if_pos hr, if_pos rfl]
      refine ⟨fun q h => ?_, fun p' v h => ?_⟩
      · cases h
        exact ⟨nI_m1 (by omega), h4, by omega⟩
      · cases h
    · rw [if_neg hr, if_neg hr]
      refine ⟨fun q h => ?_, fun p' v h => ?_⟩
      · cases h
      · cases h
        exact ⟨rfl, rfl, rfl, by omega, h4, Int32.not_lt.mp (fun z => hr (Or.inl z)), Int32.not_lt.mp (fun z => hr (Or.inr z))⟩
theorem pDig_ok {p : Nat} (hp : p ≤ L) : (∀ q, pDig b L p = .inl q → q ≤ L) ∧ (∀ p' v, pDig b L p = .inr (p', v) → p < p' ∧ p' ≤ L) := by
  have hs := tpSkip_le (b := b) hp
  unfold pDig
  split
  · rename_i h
    have := tat_dg h
    refine ⟨fun q h => (by cases h), fun p' v h => ?_⟩
    cases h
    omega
  · refine ⟨fun q h => ?_, fun p' v h => (by cases h)⟩
    cases h
    exact hs.2
theorem pItems_ok {j : Nat} (hj : j < 3) : ∀ (m p x : Nat) (A : Nat → Int32), p ≤ L → (∀ k, k < cN j → fLo j k ≤ A k ∧ A k ≤ fHi j k) → (∀ q, pItems b L j m p x A = .inl q → q ≤ L) ∧ (∀ p' A', pItems b L j m p x A = .inr (p', A') → p ≤ p' ∧ p' ≤ L ∧ ∀ k, k < cN j → fLo j k ≤ A' k ∧ A' k ≤ fHi j k) := by
  intro m
  induction m with
  | zero =>
    intro p x A hp hA
    refine ⟨fun q h => (by cases h), fun p' A' h => ?_⟩
    cases h
    exact ⟨Nat.le_refl _, hp, hA⟩
  | succ m ih =>
    intro p x A hp hA
    have hs := tpSkip_le (b := b) hp
    rw [pItems]
    split
    · refine ⟨fun q h => (by cases h), fun p' A' h => ?_⟩
      cases h
      exact ⟨hs.1, hs.2, hA⟩
    · rename_i hne
      split
      · refine ⟨fun q h => ?_, fun p' A' h => (by cases h)⟩
        cases h
        exact hs.2
      · have hlt : tpSkip b L p < L := by
          apply Classical.byContradiction
          intro z
          apply hne
          rw [show tat b L (tpSkip b L p) = -1 by unfold tat; rw [if_neg z]]
          exact liO_m1 (by omega)
        rcases liO_nm (j := j) (x := tat b L (tpSkip b L p)) (by omega) with z | ⟨k, k1, k2, k3⟩
        · exact absurd z hne
        · rw [k2, nI_clamp (by have := (cN3 j hj).1; omega)]
          have hn := pNum_ok (b := b) (L := L) (lo := fLo j k) (hi := fHi j k) (p := tpSkip b L p + 1) (by omega)
          cases hps : pNum b L (fLo j k) (fHi j k) (tpSkip b L p + 1) with
          | inl q1 =>
            refine ⟨fun q h => ?_, fun p' A' h => (by cases h)⟩
            cases h
            exact (hn.1 _ hps).2.2
          | inr z =>
            obtain ⟨p1, v1⟩ := z
            obtain ⟨-, -, -, g1, g2, g3, g4⟩ := hn.2 p1 v1 hps
            have := ih p1 (x ||| 2 ^ k) (va_up A k v1) g2 (fun i hi => by
              by_cases h : i = k
              · subst h
                rw [vu_s]
                exact ⟨g3, g4⟩
              · rw [vu_o _ _ h]
                exact hA i hi)
            refine ⟨this.1, fun p' A' h => ?_⟩
            have h2 := this.2 p' A' h
            exact ⟨by omega, h2.2⟩
theorem fU_ok : ∀ j, j < 3 → ∀ k, k < cN j → fLo j k ≤ fU j k ∧ fU j k ≤ fHi j k := by decide
/-- what a fort's numbers are within -/
def FSok (S : FS) : Prop := (∀ k, k < 4 → fLo 0 k ≤ S.1 k ∧ S.1 k ≤ fHi 0 k) ∧ S.2.1.1 ≤ 7 ∧ (∀ c k, c < S.2.1.1 → k < 5 → fLo 1 k ≤ S.2.1.2 (c * 5 + k) ∧ S.2.1.2 (c * 5 + k) ≤ fHi 1 k) ∧ S.2.2.1.1 ≤ 6 ∧ (∀ e k, e < S.2.2.1.1 → k < 2 → fLo 2 k ≤ S.2.2.1.2 (e * 2 + k) ∧ S.2.2.1.2 (e * 2 + k) ≤ fHi 2 k)
theorem pFC_ok {p : Nat} {S : FS} (hp : p ≤ L) (hS : FSok S) : (∀ q, pFC b L p S = .inl q → q ≤ L) ∧ (∀ p' S', pFC b L p S = .inr (p', S') → p < p' ∧ p' ≤ L ∧ FSok S') := by
  have hs := tpSkip_le (b := b) hp
  unfold pFC
  generalize hc : tat b L (tpSkip b L p) = c
  generalize tpSkip b L p = q at hs hc
  obtain ⟨h1, h2, h3, h4, h5⟩ := hS
  unfold pFCc
  split
  · rename_i hif
    have hlt : q < L := tat_lt hc (by rw [hif.1]; decide)
    have hi := pItems_ok (b := b) (L := L) (j := 0) (by decide) 5 (q + 1) 0 (fU 0) (by omega) (fU_ok 0 (by decide))
    cases hps : pItems b L 0 5 (q + 1) 0 (fU 0) with
    | inl q1 =>
      refine ⟨fun q h => ?_, fun p' S' h => (by cases h)⟩
      cases h
      exact hi.1 _ hps
    | inr z =>
      refine ⟨fun q h => (by cases h), fun p' S' h => ?_⟩
      have := hi.2 z.1 z.2 hps
      cases h
      exact ⟨by omega, this.2.1, this.2.2, h2, h3, h4, h5⟩
  · split
    · rename_i hif
      have hlt : q < L := tat_lt hc (by rw [hif.1]; decide)
      have hi := pItems_ok (b := b) (L := L) (j := 1) (by decide) 6 (q + 1) 0 (fU 1) (by omega) (fU_ok 1 (by decide))
      cases hps : pItems b L 1 6 (q + 1) 0 (fU 1) with
      | inl q1 =>
        refine ⟨fun q h => ?_, fun p' S' h => (by cases h)⟩
        cases h
        exact hi.1 _ hps
      | inr z =>
        refine ⟨fun q h => (by cases h), fun p' S' h => ?_⟩
        have := hi.2 z.1 z.2 hps
        cases h
        refine ⟨by omega, this.2.1, h1, (show S.2.1.1 + 1 ≤ 7 by omega), fun c k hc hk => ?_, h4, h5⟩
        dsimp only at hc ⊢
        by_cases hcn : c = S.2.1.1
        · rw [hcn, ovl_in hk]
          exact this.2.2 k hk
        · rw [ovl_out (by omega)]
          exact h3 c k (by omega) hk
    · split
      · rename_i hif
        have hlt : q < L := tat_lt hc (by rw [hif.1]; decide)
        have hi := pItems_ok (b := b) (L := L) (j := 2) (by decide) 3 (q + 1) 0 (fU 2) (by omega) (fU_ok 2 (by decide))
        cases hps : pItems b L 2 3 (q + 1) 0 (fU 2) with
        | inl q1 =>
          refine ⟨fun q h => ?_, fun p' S' h => (by cases h)⟩
          cases h
          exact hi.1 _ hps
        | inr z =>
          refine ⟨fun q h => (by cases h), fun p' S' h => ?_⟩
          have := hi.2 z.1 z.2 hps
          cases h
          refine ⟨by omega, this.2.1, h1, h2, h3, (show S.2.2.1.1 + 1 ≤ 6 by omega), fun c k hc hk => ?_⟩
          dsimp only at hc ⊢
          by_cases hcn : c = S.2.2.1.1
          · rw [hcn, ovl_in hk]
            exact this.2.2 k hk
          · rw [ovl_out (by omega)]
            exact h5 c k (by omega) hk
      · refine ⟨fun q h => ?_, fun p' S' h => (by cases h)⟩
        cases h
        exact hs.2
theorem fS0_ok : FSok fS0 := ⟨fU_ok 0 (by decide), by decide, fun c k hc => absurd hc (by show ¬ c < 0; omega), by decide, fun c k hc => absurd hc (by show ¬ c < 0; omega)⟩
theorem pForts_ok : ∀ (m p : Nat) (S : FS), p ≤ L → FSok S → (∀ q, pForts b L m p S = .inl q → q ≤ L) ∧ (∀ p' S', pForts b L m p S = .inr (p', S') → p' ≤ L ∧ FSok S') := by
  intro m
  induction m with
  | zero =>
    intro p S hp hS
    refine ⟨fun q h => (by cases h), fun p' S' h => ?_⟩
    cases h
    exact ⟨hp, hS⟩
  | succ m ih =>
    intro p S hp hS
    have hc := pFC_ok (b := b) hp hS
    rw [pForts]
    cases hps : pFC b L p S with
    | inl q1 =>
      refine ⟨fun q h => ?_, fun p' S' h => (by cases h)⟩
      cases h
      exact hc.1 _ hps
    | inr z =>
      obtain ⟨p1, S1⟩ := z
      obtain ⟨g1, g2, g3⟩ := hc.2 p1 S1 hps
      have hs := tpSkip_le (b := b) g2
      rw [pB_r]
      split
      · rename_i h59
        have hlt := tat_lt h59 (by decide)
        exact ih _ _ (by omega) g3
      · refine ⟨fun q h => (by cases h), fun p' S' h => ?_⟩
        cases h
        exact ⟨hs.2, g3⟩
/-- a fort that was read -/
theorem pFortT_ok : (∀ q, pFortT b L = .inl q → q ≤ L) ∧ (∀ p S, pFortT b L = .inr (p, S) → FSok S ∧ 2 ≤ S.2.1.1 ∧ 1 ≤ S.2.2.1.1 ∧ S.1 0 < nI S.2.1.1) := by
  have h0 := pForts_ok (b := b) (L := L) 240 0 fS0 (Nat.zero_le _) fS0_ok
  unfold pFortT
  cases hps : pForts b L 240 0 fS0 with
  | inl q1 =>
    refine ⟨fun q h => ?_, fun p' S' h => (by cases h)⟩
    cases h
    exact h0.1 _ hps
  | inr z =>
    obtain ⟨p1, S1⟩ := z
    obtain ⟨g1, g2⟩ := h0.2 p1 S1 hps
    rw [pB_r]
    unfold pFortE
    split
    · rename_i hif
      refine ⟨fun q h => (by cases h), fun p' S' h => ?_⟩
      cases h
      exact ⟨g2, hif.2⟩
    · refine ⟨fun q h => ?_, fun p' S' h => (by cases h)⟩
      cases h
      exact (tpSkip_le g1).2
/-- the kinds of steps -/
def S3ok (s : S3) : Prop := s.1 = 0 ∨ s.1 = 1 ∨ s.1 = 2 ∨ s.1 = 3 ∨ s.1 = 4
theorem pStep_ok {p : Nat} (hp : p ≤ L) : (∀ q, pStep b L p = .inl q → q ≤ L) ∧ (∀ p' s, pStep b L p = .inr (p', s) → p < p' ∧ p' ≤ L ∧ S3ok s) := by
  have hs := tpSkip_le (b := b) hp
  unfold pStep
  split
  · refine ⟨fun q h => ?_, fun p' S' h => (by cases h)⟩
    cases h
    exact hs.2
  · rename_i hne
    have hlt : tpSkip b L p < L := by
      apply Classical.byContradiction
      intro z
      apply hne
      rw [show tat b L (tpSkip b L p) = -1 by unfold tat; rw [if_neg z]]
      exact liO_m1 (by omega)
    have hd := pDig_ok (b := b) (L := L) (p := tpSkip b L p + 1) (by omega)
    split
    · cases hps : pDig b L (tpSkip b L p + 1) with
      | inl q1 =>
        refine ⟨fun q h => ?_, fun p' S' h => (by cases h)⟩
        cases h
        exact hd.1 _ hps
      | inr z =>
        have := hd.2 _ _ hps
        refine ⟨fun q h => (by cases h), fun p' S' h => ?_⟩
        cases h
        exact ⟨by omega, this.2, Or.inl rfl⟩
    · split
      · cases hps : pDig b L (tpSkip b L p + 1) with
        | inl q1 =>
          refine ⟨fun q h => ?_, fun p' S' h => (by cases h)⟩
          cases h
          exact hd.1 _ hps
        | inr z =>
          have h1 := hd.2 _ _ hps
          have hd2 := pDig_ok (b := b) (L := L) h1.2
          rw [show pB (Sum.inr z) (fun p' x => pB (pDig b L p') (fun p'' y => pok p'' ((1 : Int32), x, y))) = pB (pDig b L z.1) (fun p'' y => pok p'' ((1 : Int32), z.2, y)) from rfl]
          cases hps2 : pDig b L z.1 with
          | inl q1 =>
            refine ⟨fun q h => ?_, fun p' S' h => (by cases h)⟩
            cases h
            exact hd2.1 _ hps2
          | inr z2 =>
            have h2 := hd2.2 _ _ hps2
            refine ⟨fun q h => (by cases h), fun p' S' h => ?_⟩
            cases h
            exact ⟨by omega, h2.2, Or.inr (Or.inl rfl)⟩
      · rename_i h0 h1
        refine ⟨fun q h => (by cases h), fun p' S' h => ?_⟩
        cases h
        refine ⟨by omega, hlt, ?_⟩
        rcases liO_nm (j := 4) (x := tat b L (tpSkip b L p)) (by decide) with z | ⟨k, k1, k2, k3⟩
        · exact absurd z hne
        · have hk : k < 5 := k1
          show liO 4 _ = 0 ∨ _
          rw [k2] at h0 h1 ⊢
          have : k = 0 ∨ k = 1 ∨ k = 2 ∨ k = 3 ∨ k = 4 := by omega
          rcases this with rfl | rfl | rfl | rfl | rfl
          · exact absurd rfl h0
          · exact absurd rfl h1
          · exact Or.inr (Or.inr (Or.inl rfl))
          · exact Or.inr (Or.inr (Or.inr (Or.inl rfl)))
          · exact Or.inr (Or.inr (Or.inr (Or.inr rfl)))
/-- the kinds of a plan's steps -/
def PLok (n : Nat) (P : Nat → Int32) : Prop := ∀ i, i < n → P (i * 3) = 0 ∨ P (i * 3) = 1 ∨ P (i * 3) = 2 ∨ P (i * 3) = 3 ∨ P (i * 3) = 4
theorem put3_o {P : Nat → Int32} {i j : Nat} {s : S3} (h : j < i * 3 ∨ i * 3 + 2 < j) : put3 P i s j = P j := by
  unfold put3
  rw [vu_o _ _ (by omega), vu_o _ _ (by omega), vu_o _ _ (by omega)]
theorem put3_0 {P : Nat → Int32} {i : Nat} {s : S3} : put3 P i s (i * 3) = s.1 := by
  unfold put3
  rw [vu_o _ _ (by omega), vu_o _ _ (by omega), vu_s]
theorem put3_1 {P : Nat → Int32} {i : Nat} {s : S3} : put3 P i s (i * 3 + 1) = s.2.1 := by
  unfold put3
  rw [vu_o _ _ (by omega), vu_s]
theorem put3_2 {P : Nat → Int32} {i : Nat} {s : S3} : put3 P i s (i * 3 + 2) = s.2.2 := by
  unfold put3
  rw [vu_s]
theorem pSteps_ok : ∀ (m i p : Nat) (P : Nat → Int32), p ≤ L → PLok i P → 1 ≤ m → (∀ q, pSteps b L m i p P = .inl q → q ≤ L) ∧ (∀ p' x, pSteps b L m i p P = .inr (p', x) → p' ≤ L ∧ i < x.1 ∧ x.1 ≤ i + m ∧ PLok x.1 x.2) := by
  intro m
  induction m with
  | zero => intro i p P hp hP hm; omega
  | succ m ih =>
    intro i p P hp hP hm
    have hc := pStep_ok (b := b) hp
    rw [pSteps]
    cases hps : pStep b L p with
    | inl q1 =>
      refine ⟨fun q h => ?_, fun p' S' h => (by cases h)⟩
      cases h
      exact hc.1 _ hps
    | inr z =>
      obtain ⟨p1, s1⟩ := z
      obtain ⟨g1, g2, g3⟩ := hc.2 p1 s1 hps
      have hs := tpSkip_le (b := b) g2
      have hP' : PLok (i + 1) (put3 P i s1) := fun k hk => by
        by_cases h : k = i
        · subst h
          rw [put3_0]
          exact g3
        · rw [put3_o (by omega)]
          exact hP k (by omega)
      rw [pB_r]
      split
      · rename_i h59
        have hlt := tat_lt h59.2 (by decide)
        have := ih (i + 1) (tpSkip b L p1 + 1) (put3 P i s1) (by omega) hP' (by omega)
        refine ⟨this.1, fun p' x h => ?_⟩
        have := this.2 p' x h
        exact ⟨this.1, by omega, by omega, this.2.2.2⟩
      · refine ⟨fun q h => (by cases h), fun p' S' h => ?_⟩
        cases h
        exact ⟨hs.2, by show i < i + 1; omega, by show i + 1 ≤ i + (m + 1); omega, hP'⟩
theorem pPlanT_ok : (∀ q, pPlanT b L = .inl q → q ≤ L) ∧ (∀ p x, pPlanT b L = .inr (p, x) → 1 ≤ x.1 ∧ x.1 ≤ 16 ∧ PLok x.1 x.2) := by
  have h0 := pSteps_ok (b := b) (L := L) 16 0 0 (fun _ => 0) (Nat.zero_le _) (fun i hi => by omega) (by decide)
  unfold pPlanT pFin
  cases hps : pSteps b L 16 0 0 (fun _ => 0) with
  | inl q1 =>
    refine ⟨fun q h => ?_, fun p' S' h => (by cases h)⟩
    cases h
    exact h0.1 _ hps
  | inr z =>
    obtain ⟨p1, S1⟩ := z
    obtain ⟨g1, g2, g3, g4⟩ := h0.2 p1 S1 hps
    rw [pB_r]
    split
    · refine ⟨fun q h => (by cases h), fun p' S' h => ?_⟩
      cases h
      exact ⟨by omega, by omega, g4⟩
    · refine ⟨fun q h => ?_, fun p' S' h => (by cases h)⟩
      cases h
      exact (tpSkip_le g1).2
end PARSE4
