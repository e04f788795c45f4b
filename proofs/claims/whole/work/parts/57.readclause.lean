/-! THE CLASS reads a law: clauses; the value of a law -/
def clS (cl : Cl) : List Int32 := match cl.1 with
  | none => cl.2.1
  | some e => e.1 ++ (-63 :: cl.2.1)
def lwS (l : List Cl) : List Int32 := l.flatMap (fun cl => clS cl ++ [-59])
/-- a clause's pieces run -/
def clR (cl : Cl) : Prop := RO 18 cl.2 ∧ ∀ e, cl.1 = some e → RO 18 e
/-- what holds of a clause that is read from p to p' -/
def PGc (L p : Nat) (x : PR Cl) : Prop := match x with
  | .inr r => p < r.1 ∧ r.1 ≤ L ∧ (clS r.2).length + p ≤ r.1 ∧ clR r.2
  | .inl q => q ≤ L
theorem pB_r {α β : Type} {p : Nat} {a : α} {g : Nat → α → PR β} : pB (Sum.inr (p, a)) g = g p a := rfl
section READCL
variable {G : ph_G} {d f dr t L p la sz : Nat} {hi : Nat → Nat → Int32} {hl : Nat → Nat → Int64} {w : Int32} {Q : Option Value → ph_H → Prop} {sg : Nat → Int32} {b : Nat → Int32}
theorem LR_bindA {P : Prop} {α β : Type} {x : PR α} {oa : α → List Int32} {g : Nat → α → PR β} {ob : β → List Int32} {p1 sz1 : Nat} {w1 : Int32} {sg1 : Nat → Int32} (a0 : α) (hx : ∀ q, x = .inl q → q ≤ L) (h : LR L (pM x oa) w sz sg p1 w1 sz1 sg1)
    (K : ∀ a : α, (w1 = -1 → w = -1 ∧ x = .inr (p1, a) ∧ sz1 = sz + (oa a).length ∧ sg1 = apL sg sz (oa a)) → (∀ p' w' sz' sg', LR L (pM (g p1 a) ob) w1 sz sg p' w' sz' sg' → LR L (pM (pB x g) ob) w sz sg p' w' sz' sg') → P) (hL240 : L ≤ 240) : P := by
  obtain ⟨r1, r2, r3, r4⟩ := h
  by_cases hw : w = -1
  · subst hw
    have r3 := r3 rfl
    cases x with
    | inl q1 =>
      have hq1 : q1 ≤ L := hx q1 rfl
      have r3' : w1 = nI q1 := r3
      have hw1 : ¬ w1 = -1 := by rw [r3']; exact nI_nm1 (by omega)
      exact K a0 (fun z => absurd z hw1) (fun p' w' sz' sg' h => ⟨h.1, h.2.1, fun _ => (h.2.2.2 hw1).trans r3', fun z => absurd rfl z⟩)
    | inr z =>
      obtain ⟨p3, a3⟩ := z
      obtain ⟨b1, b2, b3, b4⟩ := (show p1 = p3 ∧ w1 = -1 ∧ sz1 = sz + (oa a3).length ∧ sg1 = apL sg sz (oa a3) from r3)
      subst b1
      exact K a3 (fun _ => ⟨rfl, rfl, b3, b4⟩) (fun p' w' sz' sg' h => by rw [b2] at h; exact h)
  · have hw1 := r4 hw
    subst hw1
    exact K a0 (fun z => absurd z hw) (fun p' w' sz' sg' h => ⟨h.1, h.2.1, fun z => absurd z hw, h.2.2.2⟩)
theorem LR_shift {α : Type} {y : PR α} {oy : α → List Int32} {pre : List Int32} {w1 : Int32} {sz1 : Nat} {sg1 : Nat → Int32} {p' : Nat} {w' : Int32} {sz' : Nat} {sg' : Nat → Int32} (h : LR L (pM y oy) w1 sz1 sg1 p' w' sz' sg') (hp : w1 = -1 → sz1 = sz + pre.length ∧ sg1 = apL sg sz pre) : LR L (pM y (fun a => pre ++ oy a)) w1 sz sg p' w' sz' sg' := by
  obtain ⟨r1, r2, r3, r4⟩ := h
  refine ⟨r1, r2, fun z => ?_, r4⟩
  have r3 := r3 z
  obtain ⟨h1, h2⟩ := hp z
  cases y with
  | inl q => exact r3
  | inr u =>
    obtain ⟨b1, b2, b3, b4⟩ := (show p' = u.1 ∧ w' = -1 ∧ sz' = sz1 + (oy u.2).length ∧ sg' = apL sg1 sz1 (oy u.2) from r3)
    refine ⟨b1, b2, ?_, ?_⟩
    · show sz' = sz + (pre ++ oy u.2).length
      rw [List.length_append]
      omega
    · show sg' = apL sg sz (pre ++ oy u.2)
      rw [b4, h1, h2, apL_app]
theorem LR_map {α β : Type} {x : PR α} {F : α → β} {ob : β → List Int32} {p' : Nat} {w' : Int32} {sz' : Nat} {sg' : Nat → Int32} (h : LR L (pM x (fun a => ob (F a))) w sz sg p' w' sz' sg') : LR L (pM (pB x (fun p a => pok p (F a))) ob) w sz sg p' w' sz' sg' := by
  cases x with
  | inl q => exact h
  | inr r => exact h
theorem pEnd_no {α : Type} {c : Int32} {a : α} (hp : p ≤ L) : ∀ q, pEnd b L c p a = .inl q → q ≤ L := by
  intro q h
  have hs := tpSkip_le (b := b) hp
  unfold pEnd at h
  split at h
  · cases h
  · cases h; exact hs.2
theorem pEnd_yes {α : Type} {c : Int32} {a a' : α} {p' : Nat} (hc : ¬ c = -1) (hp : p ≤ L) (h : pEnd b L c p a = .inr (p', a')) : p < p' ∧ p' ≤ L ∧ a' = a := by
  have hs := tpSkip_le (b := b) hp
  unfold pEnd at h
  split at h
  · rename_i hz
    have := tat_lt hz hc
    cases h
    exact ⟨by omega, by omega, rfl⟩
  · cases h
theorem PG_no {D q : Nat} {x : PR Ex} (h : PG L D p x) : ∀ q, x = .inl q → q ≤ L := by
  intro q hx
  subst hx
  exact h
/-- a sign that must come -/
theorem c_expectP {α : Type} {a : α} {c : Int32} (hk : Lok la) (hT : TK hi L) (hp : p ≤ L) (hsz : sz ≤ 241) (hc : ¬ c = -1)
    (hQ : ∀ p' w', LR L (pM (pEnd (hi 2) L c p a) (fun _ => [])) w sz sg p' w' sz sg → Q none (HP (tpS (lwB hi la sz sg) p' w') hl f dr t)) : Ct G (0, 0) (d + 3) 72 [.ref 1, .int c] (HP (tpS (lwB hi la sz sg) p w) hl f dr t) Q := by
  obtain ⟨hL, h2⟩ := lwB_T hk hT sz sg
  have hs := tpSkip_le (b := hi 2) hp
  refine c_expect hL hT.2.1 hp (fun p1 w1 he => ?_)
  rw [h2] at he
  by_cases hw : w = -1
  · subst hw
    rw [tat_here] at he
    by_cases hc2 : tat (hi 2) L (tpSkip (hi 2) L p) = c
    · rw [if_pos hc2, pass_lt (tat_lt hc2 hc)] at he
      cases he
      refine hQ _ _ (LR_ok (out := []) (by unfold pEnd; rw [if_pos hc2]; rfl) (tat_lt hc2 hc) rfl hsz (apL_nil _ _).symm)
    · rw [if_neg hc2, tpF_1] at he
      cases he
      exact hQ _ _ (LR_no (by unfold pEnd; rw [if_neg hc2]; rfl) hs.2 hsz)
  · rw [here_w hw, if_neg (fun z => hc z.symm), tpF_w hw] at he
    cases he
    exact hQ _ _ (LR_w hw hs.2 hsz)
theorem pOnly_ok {D p0 : Nat} {e : Ex} (hp : p ≤ L) (h0 : p0 < p) (h1 : e.1.length + p0 ≤ p) (h2 : RO 18 e) : PGc L p0 (pOnly b L p e) := by
  unfold pOnly
  cases he : pEnd b L 63 p e with
  | inl q => exact pEnd_no hp q he
  | inr z =>
    obtain ⟨p1, e1⟩ := z
    obtain ⟨g1, g2, g3⟩ := pEnd_yes (by decide) hp he
    have hs := pSum_ok (b := b) (L := L) 6 p1 g2
    rw [pB_r]
    cases hps : pSum b L 6 p1 with
    | inl q => rw [hps] at hs; exact hs
    | inr y =>
      obtain ⟨p2, v⟩ := y
      rw [hps] at hs
      obtain ⟨f1, f2, f3, f4⟩ := hs
      dsimp only at f1 f2 f3 f4
      refine ⟨show p0 < p2 by omega, f2, ?_, f4.mono (by omega), fun e' he' => by cases he'; exact h2⟩
      show (e.1 ++ (-63 :: v.1)).length + p0 ≤ p2
      simp only [List.length_append, List.length_cons]
      omega
theorem pClB_ok (hp : p ≤ L) : PGc L p (pClB b L p) := by
  unfold pClB
  split
  · have hs := pCon_ok (b := b) (pUnit_ok (b := b) (L := L) 6) p hp
    cases hps : pCon b L (pUnit b L 6) p with
    | inl q => rw [hps] at hs; exact hs
    | inr y =>
      obtain ⟨p2, e⟩ := y
      rw [hps] at hs
      obtain ⟨f1, f2, f3, f4⟩ := hs
      exact pOnly_ok (D := 0) f2 f1 f3 (f4.mono (by omega))
  · have hs := pSum_ok (b := b) (L := L) 6 p hp
    cases hps : pSum b L 6 p with
    | inl q => rw [hps] at hs; exact hs
    | inr y =>
      obtain ⟨p2, v⟩ := y
      rw [hps] at hs
      obtain ⟨f1, f2, f3, f4⟩ := hs
      dsimp only at f1 f2 f3 f4
      have hs2 := tpSkip_le (b := b) f2
      show PGc L p (if isCmp (tat b L (tpSkip b L p2)) = true then _ else _)
      split
      · have h1 : PG L (2 * 6 + 4) p (pCmp b L 6 (tpSkip b L p2) v) := pCmp_ok hs2.2 (by omega) (by omega) f4
        have h2 : PG L (2 * 6 + 5) p (pTruB b L 6 (tpSkip b L p2) v) := bindL_ok is38_ok (pUnit_ok 6) h1
        have h3 : PG L (2 * 6 + 6) p (pConB b L 6 (tpSkip b L p2) v) := bindL_ok is124_ok (pTru_ok (pUnit_ok 6)) h2
        cases hps2 : pConB b L 6 (tpSkip b L p2) v with
        | inl q => rw [hps2] at h3; exact h3
        | inr y =>
          obtain ⟨p3, e⟩ := y
          rw [hps2] at h3
          obtain ⟨k1, k2, k3, k4⟩ := h3
          exact pOnly_ok (D := 0) k2 k1 k3 (k4.mono (by omega))
      · exact ⟨show p < tpSkip b L p2 by omega, hs2.2, show v.1.length + p ≤ tpSkip b L p2 by omega, f4.mono (by omega), fun e' he' => by cases he'⟩
theorem pClause_ok (hp : p ≤ L) : (∀ q, pClause b L p = .inl q → q ≤ L) ∧ ∀ p' cl, pClause b L p = .inr (p', cl) → p + 2 < p' ∧ p' ≤ L ∧ (clS cl).length + p + 2 ≤ p' ∧ clR cl := by
  unfold pClause
  cases h1 : pEnd b L 121 p () with
  | inl q1 => exact ⟨fun q h => by cases h; exact pEnd_no hp _ h1, fun p' cl h => by cases h⟩
  | inr z =>
    obtain ⟨p1, u1⟩ := z
    obtain ⟨g1, g2, -⟩ := pEnd_yes (by decide) hp h1
    rw [pB_r]
    cases h2 : pEnd b L 58 p1 () with
    | inl q1 => exact ⟨fun q h => by cases h; exact pEnd_no g2 _ h2, fun p' cl h => by cases h⟩
    | inr z2 =>
      obtain ⟨p2, u2⟩ := z2
      obtain ⟨k1, k2, -⟩ := pEnd_yes (by decide) g2 h2
      have hs := tpSkip_le (b := b) k2
      have hb := pClB_ok (b := b) hs.2
      rw [pB_r]
      cases h3 : pClB b L (tpSkip b L p2) with
      | inl q1 => rw [h3] at hb; exact ⟨fun q h => by cases h; exact hb, fun p' cl h => by cases h⟩
      | inr y =>
        rw [h3] at hb
        obtain ⟨f1, f2, f3, f4⟩ := hb
        refine ⟨fun q h => (by cases h), fun p' cl h => ?_⟩
        cases h
        dsimp only at f1 f2 f3 f4
        exact ⟨by omega, f2, by omega, f4⟩
/-- behind a condition -/
theorem c_clause_only {x2 x3 : Int32} {sz1 p0 : Nat} {sg1 : Nat → Int32} {e : Ex} (hk : Lok la) (hT : TK hi L) (hp : p ≤ L) (hsz : sz1 ≤ 241) (he : w = -1 → sz1 = sz + e.1.length ∧ sg1 = apL sg sz e.1 ∧ sz1 ≤ p)
    (hQ : ∀ p' w' sz' sg', LR L (pM (pOnly (hi 2) L p e) clS) w sz sg p' w' sz' sg' → Q none (HP (tpS (lwB hi la sz' sg') p' w') hl f dr t)) :
    wq G (0, 0) (d + 26) 35 63 [some (.ref la), some (.ref 1), some (.int x2), some (.int x3)] [] (0, 0) (HP (tpS (lwB hi la sz1 sg1) p w) hl f dr t) Q := by
  have hLm := hT.2.1
  obtain ⟨l1, -⟩ := hk.lw (tpS (lwB hi la sz sg) p w) hl f dr t
  refine wq_aload_n q35_63 rfl ?_
  refine wq_bipush q35_64 ?_
  refine cV (As := [_]) q35_66 m_72 rfl rfl rfl ⟨by decide, rfl⟩ rfl (c_expectP (a := e) hk hT hp hsz (by decide) (fun p1 w1 h1 => ?_))
  have h1' := LR_shift (sz := sz) (sg := sg) (pre := e.1) h1 (fun z => ⟨(he z).1, (he z).2.1⟩)
  refine LR_bindA (g := fun p' _ => pB (pSum (hi 2) L 6 p') (fun p'' v => pok p'' (some e, v))) (ob := clS) e (pEnd_no hp) h1' (fun e' he' hk' => ?_) hLm
  refine wq_aload_n q35_69 rfl ?_
  refine wq_bipush q35_70 ?_
  refine cV (As := [_]) q35_72 m_44 rfl rfl (by first | exact l1 | rfl) ⟨by decide, rfl⟩ rfl (c_put hk hsz (fun sz2 sg2 g1 g2 => ?_))
  have hz : w1 = -1 → sz2 = sz + (e.1 ++ [-63]).length ∧ sg2 = apL sg sz (e.1 ++ [-63]) ∧ sz2 ≤ p1 := by
    intro z
    obtain ⟨q1, q2, q3, q4⟩ := he' z
    obtain ⟨q5, q6, q7⟩ := pEnd_yes (by decide) hp q2
    obtain ⟨a1, a2, a3⟩ := he q1
    obtain ⟨g3, g4⟩ := g1 (by omega)
    refine ⟨by rw [List.length_append, List.length_singleton]; omega, ?_, by omega⟩
    rw [g4, a2, a1, apL_app]
  refine wq_aload_n q35_75 rfl ?_
  refine wq_aload_n q35_76 rfl ?_
  refine wq_iconst q35_77 ?_
  refine cV (As := [_, _]) q35_78 m_39 rfl rfl (by first | exact l1 | rfl) ⟨by decide, rfl⟩ rfl (c_readSum (d := d) hk hT 6 (by omega) p1 w1 sz2 sg2 _ h1.1 g2 (fun z => (hz z).2.2) (fun p3 w3 sz3 sg3 h3 => ?_))
  refine rV q35_81 ?_
  refine hQ _ _ _ _ (hk' _ _ _ _ (LR_map (F := fun v => ((some e, v) : Cl)) ?_))
  have h3' := LR_shift (sz := sz) (sg := sg) (pre := e.1 ++ [-63]) h3 (fun z => ⟨(hz z).1, (hz z).2.1⟩)
  have ef : (fun a : Ex => (e.1 ++ [-63]) ++ a.1) = fun a => clS (some e, a) := by
    funext a
    show _ = e.1 ++ (-63 :: a.1)
    rw [List.append_assoc]
    rfl
  rw [ef] at h3'
  exact h3'
theorem c_readClause (hk : Lok la) (hT : TK hi L) {p : Nat} {w : Int32} {sz : Nat} {sg : Nat → Int32} (hp : p ≤ L) (hsz : sz ≤ 241) (hszp : w = -1 → sz ≤ p)
    (hQ : ∀ p' w' sz' sg', LR L (pM (pClause (hi 2) L p) clS) w sz sg p' w' sz' sg' → Q none (HP (tpS (lwB hi la sz' sg') p' w') hl f dr t)) : Ct G (0, 0) (d + 29) 35 [.ref la, .ref 1] (HP (tpS (lwB hi la sz sg) p w) hl f dr t) Q := by
  have hLm := hT.2.1
  obtain ⟨l1, -⟩ := hk.lw (tpS (lwB hi la sz sg) p w) hl f dr t
  refine Ct_of (ls := [_, _, _, _]) m_35.1.2.2.1 (Nat.le_of_ble_eq_true rfl) rfl ?_
  refine wq_aload_n q35_0 rfl ?_
  refine wq_bipush q35_1 ?_
  refine cV (As := [_]) q35_3 m_72 rfl rfl rfl ⟨by decide, rfl⟩ rfl (c_expectP (a := ()) hk hT hp hsz (by decide) (fun p1 w1 h1 => ?_))
  refine LR_bindA (g := fun p1 _ => pB (pEnd (hi 2) L 58 p1 ()) (fun p2 _ => pClB (hi 2) L (tpSkip (hi 2) L p2))) (ob := clS) () (pEnd_no hp) h1 (fun u1 e1 k1 => ?_) hLm
  refine wq_aload_n q35_6 rfl ?_
  refine wq_bipush q35_7 ?_
  refine cV (As := [_]) q35_9 m_72 rfl rfl rfl ⟨by decide, rfl⟩ rfl (c_expectP (a := ()) hk hT h1.1 hsz (by decide) (fun p2 w2 h2 => ?_))
  refine LR_bindA (g := fun p2 _ => pClB (hi 2) L (tpSkip (hi 2) L p2)) (ob := clS) () (pEnd_no h1.1) h2 (fun u2 e2 k2 => ?_) hLm
  obtain ⟨hL, hb⟩ := lwB_T hk hT sz sg
  have hs := tpSkip_le (b := hi 2) h2.1
  have hz2 : w2 = -1 → sz ≤ tpSkip (hi 2) L p2 := by
    intro z
    obtain ⟨q1, q2, -⟩ := e2 z
    obtain ⟨q3, q4, -⟩ := e1 q1
    have a1 := (pEnd_yes (by decide) h1.1 q2).1
    have a2 := (pEnd_yes (by decide) hp q4).1
    have := hszp q3
    omega
  refine wq_aload_n q35_12 rfl ?_
  refine cV (As := []) q35_13 m_69 rfl rfl rfl ⟨by decide, rfl⟩ rfl (c_next hL hLm h2.1 ?_)
  rw [hb]
  generalize hq : tpSkip (hi 2) L p2 = s at hs hz2 k2
  have byCond : tpHere (hi 2) L s w2 = 33 ∨ tpHere (hi 2) L s w2 = 40 → wq G (0, 0) (d + 29) 35 33 [some (.ref la), some (.ref 1), some (.int (tpHere (hi 2) L s w2)), none] [] (0, 0) (HP (tpS (lwB hi la sz sg) s w2) hl f dr t) Q := by
    intro hc
    have hw2 : w2 = -1 := by
      rcases Classical.em (w2 = -1) with z | z
      · exact z
      · rw [here_w z] at hc
        rcases hc with hc | hc <;> exact absurd hc (by decide)
    have hcl : pClB (hi 2) L s = pB (pCon (hi 2) L (pUnit (hi 2) L 6) s) (pOnly (hi 2) L) := by
      unfold pClB
      rw [if_pos]
      rw [hw2, tat_here] at hc
      exact hc
    refine wq_iconst q35_33 ?_
    refine wq_istore_n (ls' := [_, _, _, _]) q35_34 rfl ?_
    refine wq_iload_n q35_35 rfl ?_
    refine wq_if_eq q35_36 (fun c36 => ?_) (fun c36 => ?_)
    · refine wq_aload_n q35_56 rfl ?_
      refine wq_aload_n q35_57 rfl ?_
      refine wq_iconst q35_58 ?_
      refine wq_iload_n q35_59 rfl ?_
      refine cV (As := [_, _, _]) q35_60 m_36 rfl rfl (by first | exact l1 | rfl) ⟨by decide, rfl⟩ rfl ((c_readUp (d := d) hk hT (by omega) (c_readUC hk hT 6 (by omega) d)).2 s w2 sz sg _ hs.2 hsz hz2 (fun p3 w3 sz3 sg3 h3 => ?_))
      have hpg := pCon_ok (b := hi 2) (pUnit_ok (b := hi 2) (L := L) 6) s hs.2
      refine LR_bindA (g := pOnly (hi 2) L) (ob := clS) (exNum 0) (PG_no (q := 0) hpg) h3 (fun e e3 k3 => ?_) hLm
      refine c_clause_only (d := d + 3) (p0 := 0) hk hT h3.1 h3.2.1 (fun z => ?_) (fun p' w' sz' sg' h => hQ _ _ _ _ (k1 _ _ _ _ (k2 _ _ _ _ (by rw [hcl]; exact k3 _ _ _ _ h))))
      obtain ⟨q1, q2, q3, q4⟩ := e3 z
      rw [q2] at hpg
      obtain ⟨f1, f2, f3, f4⟩ := hpg
      dsimp only at f1 f2 f3 f4
      have := hz2 q1
      exact ⟨q3, q4, by omega⟩
    · exact absurd rfl c36
  refine wq_istore_n (ls' := [_, _, _, _]) q35_16 rfl ?_
  refine wq_iload_n q35_17 rfl ?_
  refine wq_bipush q35_18 ?_
  refine wq_icmp_eq q35_20 (fun c20 => ?_) (fun c20 => ?_)
  · exact byCond (Or.inl c20)
  · refine wq_iload_n q35_23 rfl ?_
    refine wq_bipush q35_24 ?_
    refine wq_icmp_eq q35_26 (fun c26 => ?_) (fun c26 => ?_)
    · exact byCond (Or.inr c26)
    · refine wq_iconst q35_29 ?_
      refine wq_goto q35_30 ?_
      refine wq_istore_n (ls' := [_, _, _, _]) q35_34 rfl ?_
      refine wq_iload_n q35_35 rfl ?_
      refine wq_if_eq q35_36 (fun c36 => ?_) (fun c36 => ?_)
      · exact absurd c36 (by decide)
      · refine wq_aload_n q35_39 rfl ?_
        refine wq_aload_n q35_40 rfl ?_
        refine wq_iconst q35_41 ?_
        refine cV (As := [_, _]) q35_42 m_39 rfl rfl (by first | exact l1 | rfl) ⟨by decide, rfl⟩ rfl (c_readSum (d := d + 3) hk hT 6 (by omega) s w2 sz sg _ hs.2 hsz hz2 (fun p3 w3 sz3 sg3 h3 => ?_))
        have hpg := pSum_ok (b := hi 2) (L := L) 6 s hs.2
        have hcl : w2 = -1 → pClB (hi 2) L s = pB (pSum (hi 2) L 6 s) (fun p' v => if isCmp (tat (hi 2) L (tpSkip (hi 2) L p')) = true then pB (pConB (hi 2) L 6 (tpSkip (hi 2) L p') v) (pOnly (hi 2) L) else pok (tpSkip (hi 2) L p') (none, v)) := by
          intro z
          unfold pClB
          rw [if_neg]
          rw [z, tat_here] at c20 c26
          rintro (y | y)
          · exact c20 y
          · exact c26 y
        have k2' : ∀ p' w' sz' sg', LR L (pM (pB (pSum (hi 2) L 6 s) (fun p' v => if isCmp (tat (hi 2) L (tpSkip (hi 2) L p')) = true then pB (pConB (hi 2) L 6 (tpSkip (hi 2) L p') v) (pOnly (hi 2) L) else pok (tpSkip (hi 2) L p') (none, v))) clS) w2 sz sg p' w' sz' sg' → LR L (pM (pClB (hi 2) L s) clS) w2 sz sg p' w' sz' sg' := by
          intro p' w' sz' sg' h
          by_cases z : w2 = -1
          · rw [hcl z]; exact h
          · exact ⟨h.1, h.2.1, fun y => absurd y z, h.2.2.2⟩
        refine LR_bindA (g := fun p' v => if isCmp (tat (hi 2) L (tpSkip (hi 2) L p')) = true then pB (pConB (hi 2) L 6 (tpSkip (hi 2) L p') v) (pOnly (hi 2) L) else pok (tpSkip (hi 2) L p') (none, v)) (ob := clS) (exNum 0) (PG_no (q := 0) hpg) h3 (fun v e3 k3 => ?_) hLm
        obtain ⟨hL3, hb3⟩ := lwB_T hk hT sz3 sg3
        have hs3 := tpSkip_le (b := hi 2) h3.1
        obtain ⟨l3, -⟩ := hk.lw (tpS (lwB hi la sz3 sg3) p3 w3) hl f dr t
        refine wq_aload_n q35_45 rfl ?_
        refine cV (As := []) q35_46 m_69 rfl rfl rfl ⟨by decide, rfl⟩ rfl (c_next hL3 hLm h3.1 ?_)
        rw [hb3]
        refine cS' (As := [_]) q35_49 m_43 rfl rfl rfl (c_isComparison ?_)
        refine wq_if_ne q35_52 (fun c52 => ?_) (fun c52 => ?_)
        · have hc := i10 c52
          have hw3 : w3 = -1 := by
            rcases Classical.em (w3 = -1) with z | z
            · exact z
            · rw [here_w z] at hc
              exact absurd hc (by decide)
          subst hw3
          rw [tat_here] at hc
          obtain ⟨q1, q2, q3, q4⟩ := e3 rfl
          have hpg' := hpg
          rw [q2] at hpg'
          obtain ⟨f1, f2, f3, f4⟩ := hpg'
          dsimp only at f1 f2 f3 f4
          have hz3 := hz2 q1
          rw [if_pos hc] at k3
          have h1 : PG L (2 * 6 + 4) s (pCmp (hi 2) L 6 (tpSkip (hi 2) L p3) v) := pCmp_ok hs3.2 (by omega) (by omega) f4
          have h2 : PG L (2 * 6 + 5) s (pTruB (hi 2) L 6 (tpSkip (hi 2) L p3) v) := bindL_ok is38_ok (pUnit_ok 6) h1
          have h4 : PG L (2 * 6 + 6) s (pConB (hi 2) L 6 (tpSkip (hi 2) L p3) v) := bindL_ok is124_ok (pTru_ok (pUnit_ok 6)) h2
          have hst : (-1 : Int32) = -1 → sz3 = sz + v.1.length ∧ sg3 = apL sg sz v.1 ∧ sz3 ≤ tpSkip (hi 2) L p3 := fun _ => ⟨q3, q4, by omega⟩
          have hBU := c_readUnitB (G := G) (d := d + 22) (hl := hl) (f := f) (dr := dr) (t := t) hk hT (lv := 6) (by omega) (c_readSum (d := d) hk hT 6 (by omega))
          have hpB1 : ∀ (p p0 : Nat) (e : Ex), p ≤ L → p0 < p → e.1.length + p0 ≤ p → RO 15 e → PG L (2 * 6 + 4) p0 (pCmp (hi 2) L 6 p e) := fun p p0 e g1 g2 g3 g4 => pCmp_ok g1 g2 g3 g4
          have hBT : CtB G (d + 27) hl f dr t hi la L 37 [.ref la, .ref 1, .int (nI (6 - 6)), .int 1] (pTruB (hi 2) L 6) := c_readTruthB (d := d + 26) hk hT (lv := 6) (by omega) (pUnit_ok 6) (by omega) (c_readUC hk hT 6 (by omega) d) hBU hpB1
          have hpB2 : ∀ (p p0 : Nat) (e : Ex), p ≤ L → p0 < p → e.1.length + p0 ≤ p → RO 15 e → PG L (2 * 6 + 5) p0 (pTruB (hi 2) L 6 p e) := fun p p0 e g1 g2 g3 g4 => bindL_ok is38_ok (pUnit_ok 6) (hpB1 p p0 e g1 g2 g3 g4)
          have hBC : CtB G (d + 28) hl f dr t hi la L 36 [.ref la, .ref 1, .int (nI (6 - 6)), .int 1] (pConB (hi 2) L 6) := c_readConditionB (d := d + 27) hk hT (lv := 6) (by omega) (pTru_ok (pUnit_ok 6)) (by omega) (c_readUp (d := d) hk hT (by omega) (c_readUC hk hT 6 (by omega) d)).1 hBT hpB2
          refine wq_aload_n q35_56 rfl ?_
          refine wq_aload_n q35_57 rfl ?_
          refine wq_iconst q35_58 ?_
          refine wq_iload_n q35_59 rfl ?_
          refine cV (As := [_, _, _]) q35_60 m_36 rfl rfl (by first | exact l3 | rfl) ⟨by decide, rfl⟩ rfl (hBC (tpSkip (hi 2) L p3) (-1) sz3 sg3 sz sg v s _ hs3.2 h3.2.1 hst (fun _ => ⟨by omega, by omega, by omega, f4⟩) (fun p4 w4 sz4 sg4 h5 => ?_))
          refine LR_bindA (g := pOnly (hi 2) L) (ob := clS) (exNum 0) (PG_no (q := 0) h4) h5 (fun e e5 k5 => ?_) hLm
          refine c_clause_only (d := d + 3) (p0 := 0) hk hT h5.1 h5.2.1 (fun z => ?_) (fun p' w' sz' sg' h => hQ _ _ _ _ (k1 _ _ _ _ (k2 _ _ _ _ (k2' _ _ _ _ (k3 _ _ _ _ (k5 _ _ _ _ h))))))
          obtain ⟨y1, y2, y3, y4⟩ := e5 z
          rw [y2] at h4
          obtain ⟨f1', f2', f3', f4'⟩ := h4
          dsimp only at f1' f2' f3' f4'
          exact ⟨y3, y4, by omega⟩
        · have hc := i01 c52
          refine rV q35_55 ?_
          refine hQ _ _ _ _ (k1 _ _ _ _ (k2 _ _ _ _ (k2' _ _ _ _ (k3 _ _ _ _ ?_))))
          by_cases hw3 : w3 = -1
          · subst hw3
            rw [tat_here] at hc
            obtain ⟨q1, q2, q3, q4⟩ := e3 rfl
            rw [if_neg (by rw [hc]; decide)]
            exact LR_ok rfl hs3.2 q3 h3.2.1 q4
          · exact LR_w hw3 hs3.2 h3.2.1
end READCL
