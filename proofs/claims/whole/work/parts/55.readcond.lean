/-! THE CLASS reads a law: sums, conditions -/
def CtB (G : ph_G) (d : Nat) (hl : Nat → Nat → Int64) (f dr t : Nat) (hi : Nat → Nat → Int32) (la L k : Nat) (args : List Value) (par : Nat → Ex → PR Ex) : Prop :=
  ∀ (p : Nat) (w : Int32) (sz : Nat) (sg : Nat → Int32) (sz0 : Nat) (sg0 : Nat → Int32) (e : Ex) (p0 : Nat) (Q : Option Value → ph_H → Prop), p ≤ L → sz ≤ 241 → (w = -1 → sz = sz0 + e.1.length ∧ sg = apL sg0 sz0 e.1 ∧ sz ≤ p) → (w = -1 → sz0 ≤ p0 ∧ p0 < p ∧ e.1.length + p0 ≤ p ∧ RO 15 e) → (∀ p' w' sz' sg', LR L (pM (par p e) (fun e => e.1)) w sz0 sg0 p' w' sz' sg' → Q none (HP (tpS (lwB hi la sz' sg') p' w') hl f dr t)) → Ct G (0, 0) d k args (HP (tpS (lwB hi la sz sg) p w) hl f dr t) Q
section READLAW2
variable {G : ph_G} {d f dr t L p la sz : Nat} {hi : Nat → Nat → Int32} {hl : Nat → Nat → Int64} {w : Int32} {Q : Option Value → ph_H → Prop} {sg : Nat → Int32}
theorem LR_bindG {P : Prop} {x : PR Ex} {g : Nat → Ex → PR Ex} {p0 p1 sz1 : Nat} {w1 : Int32} {sg1 : Nat → Int32} {D : Nat} (hx : w = -1 → PG L D p0 x) (hszp : w = -1 → sz ≤ p0) (h : LR L (pM x (fun e => e.1)) w sz sg p1 w1 sz1 sg1)
    (K : ∀ e : Ex, (w1 = -1 → sz1 = sz + e.1.length ∧ sg1 = apL sg sz e.1 ∧ sz1 ≤ p1 ∧ p0 < p1 ∧ RO D e ∧ e.1.length + p0 ≤ p1) → (∀ p' w' sz' sg', LR L (pM (g p1 e) (fun e => e.1)) w1 sz sg p' w' sz' sg' → LR L (pM (pB x g) (fun e => e.1)) w sz sg p' w' sz' sg') → P) (hL240 : L ≤ 240) : P := by
  obtain ⟨r1, r2, r3, r4⟩ := h
  by_cases hw : w = -1
  · subst hw
    have r3 := r3 rfl
    have hszp := hszp rfl
    have hx := hx rfl
    cases x with
    | inl q1 =>
      have hq1 : q1 ≤ L := hx
      have r3' : w1 = nI q1 := r3
      have hw1 : ¬ w1 = -1 := by rw [r3']; exact nI_nm1 (by omega)
      exact K (exNum 0) (fun z => absurd z hw1) (fun p' w' sz' sg' h => ⟨h.1, h.2.1, fun _ => (h.2.2.2 hw1).trans r3', fun z => absurd rfl z⟩)
    | inr z =>
      obtain ⟨p3, e3⟩ := z
      obtain ⟨b1, b2, b3, b4⟩ := (show p1 = p3 ∧ w1 = -1 ∧ sz1 = sz + e3.1.length ∧ sg1 = apL sg sz e3.1 from r3)
      obtain ⟨f1, f2, f3, f4⟩ := hx
      dsimp only at f1 f2 f3 f4
      subst b1
      exact K e3 (fun _ => ⟨b3, b4, by omega, f1, f4, f3⟩) (fun p' w' sz' sg' h => by rw [b2] at h; exact h)
  · have hw1 := r4 hw
    subst hw1
    exact K (exNum 0) (fun z => absurd z hw) (fun p' w' sz' sg' h => ⟨h.1, h.2.1, fun z => absurd z hw, h.2.2.2⟩)
theorem c_readTerm {lv D : Nat} (hk : Lok la) (hT : TK hi L) (hlv : lv ≤ 6) (hpg : PGf L D (pAtom (hi 2) L (pInn (hi 2) L lv))) (hd : 3 ≤ d) (hsub : CtR G d hl f dr t hi la L 41 [.ref la, .ref 1, .int (nI (6 - lv))] (pAtom (hi 2) L (pInn (hi 2) L lv))) :
    CtR G (d + 1) hl f dr t hi la L 40 [.ref la, .ref 1, .int (nI (6 - lv))] (pTerm (hi 2) L (pInn (hi 2) L lv)) := by
  intro p w sz sg Q hp hsz hszp hQ
  obtain ⟨l1, -⟩ := hk.lw (tpS (lwB hi la sz sg) p w) hl f dr t
  refine Ct_of (ls := [_, _, _, _, _]) m_40.1.2.2.1 (Nat.le_of_ble_eq_true rfl) rfl ?_
  refine wq_aload_n q40_0 rfl ?_
  refine wq_aload_n q40_1 rfl ?_
  refine wq_iload_n q40_2 rfl ?_
  refine cV (As := [_, _]) q40_3 m_41 rfl rfl (by first | exact l1 | rfl) ⟨by decide, rfl⟩ rfl (hsub p w sz sg _ hp hsz hszp (fun p1 w1 sz1 sg1 h => ?_))
  refine wq_iconst q40_6 ?_
  refine wq_istore_n (ls' := [_, _, _, _, _]) q40_7 rfl ?_
  refine LR_bindG (g := pLoop (hi 2) L isMul (pAtom (hi 2) L (pInn (hi 2) L lv)) 240) (fun _ => hpg p hp) hszp h (fun e he hk' => ?_) hT.2.1
  exact c_readTerm_loop hk hT hlv hpg hsub hd 240 0 p1 w1 sz1 sg1 e _ (by omega) h.1 h.2.1 (fun z => ⟨(he z).1, (he z).2.1, (he z).2.2.1, by have := hT.2.1; omega⟩) (fun p' w' sz' sg' hr => hQ _ _ _ _ (hk' _ _ _ _ hr))
theorem c_readSumI {lv D : Nat} (hk : Lok la) (hT : TK hi L) (hlv : lv ≤ 6) (hpg : PGf L D (pTerm (hi 2) L (pInn (hi 2) L lv))) (hd : 3 ≤ d) (hsub : CtR G d hl f dr t hi la L 40 [.ref la, .ref 1, .int (nI (6 - lv))] (pTerm (hi 2) L (pInn (hi 2) L lv))) :
    CtR G (d + 1) hl f dr t hi la L 39 [.ref la, .ref 1, .int (nI (6 - lv))] (pSum (hi 2) L lv) := by
  rw [pSum_I]
  intro p w sz sg Q hp hsz hszp hQ
  obtain ⟨l1, -⟩ := hk.lw (tpS (lwB hi la sz sg) p w) hl f dr t
  refine Ct_of (ls := [_, _, _, _, _]) m_39.1.2.2.1 (Nat.le_of_ble_eq_true rfl) rfl ?_
  refine wq_aload_n q39_0 rfl ?_
  refine wq_aload_n q39_1 rfl ?_
  refine wq_iload_n q39_2 rfl ?_
  refine cV (As := [_, _]) q39_3 m_40 rfl rfl (by first | exact l1 | rfl) ⟨by decide, rfl⟩ rfl (hsub p w sz sg _ hp hsz hszp (fun p1 w1 sz1 sg1 h => ?_))
  refine wq_iconst q39_6 ?_
  refine wq_istore_n (ls' := [_, _, _, _, _]) q39_7 rfl ?_
  refine LR_bindG (g := pLoop (hi 2) L isAdd (pTerm (hi 2) L (pInn (hi 2) L lv)) 240) (fun _ => hpg p hp) hszp h (fun e he hk' => ?_) hT.2.1
  exact c_readSum_loop hk hT hlv hpg hsub hd 240 0 p1 w1 sz1 sg1 e _ (by omega) h.1 h.2.1 (fun z => ⟨(he z).1, (he z).2.1, (he z).2.2.1, by have := hT.2.1; omega⟩) (fun p' w' sz' sg' hr => hQ _ _ _ _ (hk' _ _ _ _ hr))
theorem c_readSum (hk : Lok la) (hT : TK hi L) : ∀ lv, lv ≤ 6 → CtR G (d + 7 + 3 * lv) hl f dr t hi la L 39 [.ref la, .ref 1, .int (nI (6 - lv))] (pSum (hi 2) L lv) := by
  intro lv
  induction lv with
  | zero =>
    intro hlv
    refine c_readSumI (d := d + 6) hk hT hlv (pTerm_ok (D := 1) (by omega) (pInn_ok 0)) (by omega) ?_
    refine c_readTerm (d := d + 5) hk hT hlv (pAtom_ok (D := 1) (by omega) (pInn_ok 0)) (by omega) ?_
    exact c_readAtom hk hT hlv (fun l hl => by omega)
  | succ lv ih =>
    intro hlv
    have ih := ih (by omega)
    rw [show d + 7 + 3 * (lv + 1) = d + 3 * lv + 9 + 1 by omega]
    refine c_readSumI (d := d + 3 * lv + 9) hk hT hlv (pTerm_ok (D := 2 * (lv + 1) + 1) (by omega) (pInn_ok (lv + 1))) (by omega) ?_
    refine c_readTerm (d := d + 3 * lv + 8) hk hT hlv (pAtom_ok (D := 2 * (lv + 1) + 1) (by omega) (pInn_ok (lv + 1))) (by omega) ?_
    refine c_readAtom (d := d + 3 * lv + 3) hk hT hlv (fun l hl' => ?_)
    have : l = lv := by omega
    subst this
    rw [show d + 3 * l + 3 + 4 = d + 7 + 3 * l by omega]
    exact ih
/-- a comparison: its first sum is read -/
theorem c_unit_cmp {lv : Nat} {x2 x4 x5 : Int32} {x6 : Option Value} {sz0 : Nat} {sg0 : Nat → Int32} {e : Ex} (hk : Lok la) (hT : TK hi L) (hlv : lv ≤ 6) (hsum : CtR G (d + 3) hl f dr t hi la L 39 [.ref la, .ref 1, .int (nI (6 - lv))] (pSum (hi 2) L lv)) (hp : p ≤ L) (hsz : sz ≤ 241) (hw : w = -1 → sz = sz0 + e.1.length ∧ sg = apL sg0 sz0 e.1 ∧ sz ≤ p)
    (hQ : ∀ p' w' sz' sg', LR L (pM (pCmp (hi 2) L lv p e) (fun e => e.1)) w sz0 sg0 p' w' sz' sg' → Q none (HP (tpS (lwB hi la sz' sg') p' w') hl f dr t)) :
    wq G (0, 0) (d + 4) 38 104 [some (.ref la), some (.ref 1), some (.int (nI (6 - lv))), some (.int x2), some (.int x4), some (.int x5), x6] [] (0, 0) (HP (tpS (lwB hi la sz sg) p w) hl f dr t) Q := by
  obtain ⟨hL, h2⟩ := lwB_T hk hT sz sg
  have hLm := hT.2.1
  have hs := tpSkip_le (b := hi 2) hp
  have hid := tpSkip_id (b := hi 2) hp
  obtain ⟨l1, -⟩ := hk.lw (tpS (lwB hi la sz sg) p w) hl f dr t
  refine wq_aload_n q38_104 rfl ?_
  refine cV (As := []) q38_105 m_69 rfl rfl rfl ⟨by decide, rfl⟩ rfl (c_next hL hLm hp ?_)
  rw [h2]
  by_cases h1 : w = -1
  · subst h1
    obtain ⟨a1, a2, a3⟩ := hw rfl
    rw [tat_here]
    generalize hq : tpSkip (hi 2) L p = q at hs hid
    generalize hc : tat (hi 2) L q = c
    have hpl : pCmp (hi 2) L lv p e = if isCmp c = true then pB (pSum (hi 2) L lv (q + 1)) (fun p' e' => pok p' (exOp (0 - c) e e')) else pno q := by
      unfold pCmp
      rw [hq, hc]
    rw [hpl] at hQ
    refine wq_istore (ls' := [_, _, _, _, _, _, _]) q38_108 rfl ?_
    refine wq_iload q38_110 rfl ?_
    refine cS' (As := [_]) q38_112 m_43 rfl rfl rfl (c_isComparison ?_)
    refine wq_if_ne q38_115 (fun c115 => ?_) (fun c115 => ?_)
    · have ho := i10 c115
      rw [if_pos ho] at hQ
      have hlt : q < L := tat_lt hc (isCmp_ok c ho).1
      have hpgq := pSum_ok (b := hi 2) (L := L) lv (q + 1) (by omega)
      refine wq_aload_n q38_123 rfl ?_
      refine cV (As := []) q38_124 m_70 rfl rfl rfl ⟨by decide, rfl⟩ rfl (c_pass hL hLm hs.2 ?_)
      rw [pass_lt hlt]
      refine wq_aload_n q38_127 rfl ?_
      refine wq_aload_n q38_128 rfl ?_
      refine wq_iload_n q38_129 rfl ?_
      refine cV (As := [_, _]) q38_130 m_39 rfl rfl (by first | exact l1 | rfl) ⟨by decide, rfl⟩ rfl (hsum (q + 1) (-1) sz sg _ (by omega) hsz (fun _ => by omega) (fun p1 w1 sz1 sg1 hr => ?_))
      obtain ⟨r1, r2, r3, -⟩ := hr
      have r3 := r3 rfl
      obtain ⟨l1, -⟩ := hk.lw (tpS (lwB hi la sz1 sg1) p1 w1) hl f dr t
      refine wq_aload_n q38_133 rfl ?_
      refine wq_iload q38_134 rfl ?_
      refine wq_ineg q38_136 ?_
      refine cV (As := [_]) q38_137 m_44 rfl rfl (by first | exact l1 | rfl) ⟨by decide, rfl⟩ rfl (c_put hk r2 (fun sz2 sg2 g1 g2 => ?_))
      refine rV q38_140 ?_
      cases hps : pSum (hi 2) L lv (q + 1) with
      | inl q1 =>
        rw [hps] at r3 hQ
        have r3' : w1 = nI q1 := r3
        subst r3'
        exact hQ _ _ _ _ (LR_no rfl r1 g2)
      | inr z =>
        obtain ⟨p3, e3⟩ := z
        rw [hps] at r3 hpgq hQ
        obtain ⟨b1, b2, b3, b4⟩ := (show p1 = p3 ∧ w1 = -1 ∧ sz1 = sz + e3.1.length ∧ sg1 = apL sg sz e3.1 from r3)
        obtain ⟨f1, f2, f3, f4⟩ := hpgq
        dsimp only at f1 f2 f3 f4
        subst b1 b2
        obtain ⟨g3, g4⟩ := g1 (by omega)
        have el : (exOp (0 - c) e e3).1.length = e.1.length + (e3.1.length + 1) := by simp [exOp]
        refine hQ _ _ _ _ (LR_ok (out := (exOp (0 - c) e e3).1) rfl r1 (by rw [el]; omega) g2 ?_)
        rw [g4, b4, b3, a2, a1, apL_app, apL_app]
        rfl
    · have ho := i01 c115
      rw [if_neg (by rw [ho]; decide)] at hQ
      refine wq_aload_n q38_118 rfl ?_
      refine cV (As := []) q38_119 m_74 rfl rfl rfl ⟨by decide, rfl⟩ rfl (c_fail hL hLm hs.2 ?_)
      refine rV q38_122 ?_
      rw [h2, hid, tpF_1]
      exact hQ _ _ _ _ (LR_no rfl hs.2 hsz)
  · rw [here_w h1]
    refine wq_istore (ls' := [_, _, _, _, _, _, _]) q38_108 rfl ?_
    refine wq_iload q38_110 rfl ?_
    refine cS' (As := [_]) q38_112 m_43 rfl rfl rfl (c_isComparison ?_)
    refine wq_if_ne q38_115 (fun c115 => ?_) (fun c115 => ?_)
    · exact absurd (i10 c115) (by decide)
    · refine wq_aload_n q38_118 rfl ?_
      refine cV (As := []) q38_119 m_74 rfl rfl rfl ⟨by decide, rfl⟩ rfl (c_fail hL hLm hs.2 ?_)
      refine rV q38_122 ?_
      rw [h2, hid, tpF_w h1]
      exact hQ _ _ _ _ (LR_w h1 hs.2 hsz)
theorem c_readUnitB {lv : Nat} (hk : Lok la) (hT : TK hi L) (hlv : lv ≤ 6) (hsum : CtR G (d + 3) hl f dr t hi la L 39 [.ref la, .ref 1, .int (nI (6 - lv))] (pSum (hi 2) L lv)) : CtB G (d + 4) hl f dr t hi la L 38 [.ref la, .ref 1, .int (nI (6 - lv)), .int 1] (pCmp (hi 2) L lv) := by
  intro p w sz sg sz0 sg0 e p0 Q hp hsz hw hw0 hQ
  obtain ⟨hL, h2⟩ := lwB_T hk hT sz sg
  have hLm := hT.2.1
  have hs := tpSkip_le (b := hi 2) hp
  have hid := tpSkip_id (b := hi 2) hp
  have hQ' : ∀ p' w' sz' sg', LR L (pM (pCmp (hi 2) L lv (tpSkip (hi 2) L p) e) (fun e => e.1)) w sz0 sg0 p' w' sz' sg' → Q none (HP (tpS (lwB hi la sz' sg') p' w') hl f dr t) := by
    have : pCmp (hi 2) L lv (tpSkip (hi 2) L p) e = pCmp (hi 2) L lv p e := by
      unfold pCmp
      rw [hid]
    rw [this]
    exact hQ
  refine Ct_of (ls := [_, _, _, _, _, _, _]) m_38.1.2.2.1 (Nat.le_of_ble_eq_true rfl) rfl ?_
  refine wq_aload_n q38_0 rfl ?_
  refine cV (As := []) q38_1 m_69 rfl rfl rfl ⟨by decide, rfl⟩ rfl (c_next hL hLm hp ?_)
  rw [h2]
  refine wq_istore (ls' := [_, _, _, _, _, _, _]) q38_4 rfl ?_
  refine wq_iload_n q38_6 rfl ?_
  refine wq_if_ne q38_7 (fun c7 => ?_) (fun c7 => ?_)
  · refine wq_iconst q38_28 ?_
    refine wq_istore (ls' := [_, _, _, _, _, _, _]) q38_29 rfl ?_
    refine wq_iload q38_31 rfl ?_
    refine wq_if_eq q38_33 (fun c33 => ?_) (fun c33 => ?_)
    · refine wq_iload q38_45 rfl ?_
      refine wq_if_eq q38_47 (fun c47 => ?_) (fun c47 => ?_)
      · refine wq_iload q38_73 rfl ?_
        refine wq_if_eq q38_75 (fun c75 => ?_) (fun c75 => ?_)
        · refine wq_iload_n q38_94 rfl ?_
          refine wq_if_ne q38_95 (fun c95 => ?_) (fun c95 => ?_)
          · exact c_unit_cmp hk hT hlv hsum hs.2 hsz (fun z => ⟨(hw z).1, (hw z).2.1, by have := (hw z).2.2; omega⟩) hQ'
          · exact absurd c95 (by decide)
        · exact absurd rfl c75
      · exact absurd rfl c47
    · exact absurd rfl c33
  · exact absurd c7 (by decide)
theorem c_readTruth_loop {lv : Nat} {sub : Nat → PR Ex} {D sz0 : Nat} {x3 : Int32} {sg0 : Nat → Int32} (hk : Lok la) (hT : TK hi L) (hlv : lv ≤ 6) (hpg : PGf L D sub) (hsub : CtR G d hl f dr t hi la L 38 [.ref la, .ref 1, .int (nI (6 - lv)), .int 0] sub) (hd : 3 ≤ d) :
    ∀ (m k p : Nat) (w : Int32) (sz : Nat) (sg : Nat → Int32) (e : Ex), k + m = 240 → p ≤ L → sz ≤ 241 → (w = -1 → sz = sz0 + e.1.length ∧ sg = apL sg0 sz0 e.1 ∧ sz ≤ p ∧ L ≤ p + m) →
    (∀ p' w' sz' sg', LR L (pM (pLoop (hi 2) L is38 sub m p e) (fun e => e.1)) w sz0 sg0 p' w' sz' sg' → Q none (HP (tpS (lwB hi la sz' sg') p' w') hl f dr t)) →
    wq G (0, 0) (d + 1) 37 10 [some (.ref la), some (.ref 1), some (.int (nI (6 - lv))), some (.int x3), some (.int (nI k))] [] (0, 0) (HP (tpS (lwB hi la sz sg) p w) hl f dr t) Q := by
  have hLm := hT.2.1
  obtain ⟨d, rfl⟩ : ∃ d', d = d' + 3 := ⟨d - 3, by omega⟩
  intro m
  induction m with
  | zero =>
    intro k p w sz sg e hm hp hsz hw hQ
    refine wq_iload q37_10 rfl ?_
    refine wq_sipush q37_12 ?_
    refine wq_icmp_ge q37_15 (fun c15 => ?_) (fun c15 => ?_)
    · refine rV q37_46 ?_
      by_cases h1 : w = -1
      · subst h1
        obtain ⟨a1, a2, a3, a4⟩ := hw rfl
        exact hQ _ _ _ _ (LR_ok rfl hp a1 hsz a2)
      · exact hQ _ _ _ _ (LR_w h1 hp hsz)
    · rw [show (240 : Int32) = nI 240 from rfl, nI_leI (by omega) (by omega)] at c15
      omega
  | succ m ih =>
    intro k p w sz sg e hm hp hsz hw hQ
    obtain ⟨hL, h2⟩ := lwB_T hk hT sz sg
    have hs := tpSkip_le (b := hi 2) hp
    obtain ⟨l1, -⟩ := hk.lw (tpS (lwB hi la sz sg) p w) hl f dr t
    refine wq_iload q37_10 rfl ?_
    refine wq_sipush q37_12 ?_
    refine wq_icmp_ge q37_15 (fun c15 => ?_) (fun c15 => ?_)
    · rw [show (240 : Int32) = nI 240 from rfl, nI_leI (by omega) (by omega)] at c15
      omega
    · refine wq_aload_n q37_18 rfl ?_
      refine wq_bipush q37_19 ?_
      refine cV (As := [_]) q37_21 m_71 rfl rfl rfl ⟨by decide, rfl⟩ rfl (c_takes hL hLm hp ?_)
      rw [h2]
      by_cases h1 : w = -1
      · subst h1
        obtain ⟨a1, a2, a3, a4⟩ := hw rfl
        rw [tat_here]
        generalize hq : tpSkip (hi 2) L p = q at hs
        generalize hc : tat (hi 2) L q = c
        have hpl : pLoop (hi 2) L is38 sub (m + 1) p e = if is38 c = true then pB (sub (q + 1)) (fun p' e' => pLoop (hi 2) L is38 sub m p' (exOp (0 - c) e e')) else pok q e := by
          rw [pLoop, hq, hc]
        rw [hpl] at hQ
        by_cases ho : c = 38
        · have ho' : is38 c = true := by simp [is38, ho]
          rw [if_pos ho'] at hQ
          rw [if_pos ho, if_pos ho]
          have hlt : q < L := tat_lt hc (is38_ok c ho').1
          rw [pass_lt hlt]
          have hpgq := hpg (q + 1) (by omega)
          refine wq_if_eq q37_24 (fun c24 => ?_) (fun c24 => ?_)
          · exact absurd c24 (by decide)
          · refine wq_aload_n q37_27 rfl ?_
            refine wq_aload_n q37_28 rfl ?_
            refine wq_iload_n q37_29 rfl ?_
            refine wq_iconst q37_30 ?_
            refine cV (As := [_, _, _]) q37_31 m_38 rfl rfl (by first | exact l1 | rfl) ⟨by decide, rfl⟩ rfl (hsub (q + 1) (-1) sz sg _ (by omega) hsz (fun _ => by omega) (fun p1 w1 sz1 sg1 hr => ?_))
            obtain ⟨r1, r2, r3, -⟩ := hr
            have r3 := r3 rfl
            obtain ⟨l1, -⟩ := hk.lw (tpS (lwB hi la sz1 sg1) p1 w1) hl f dr t
            refine wq_aload_n q37_34 rfl ?_
            refine wq_bipush q37_35 ?_
            refine cV (As := [_]) q37_37 m_44 rfl rfl (by first | exact l1 | rfl) ⟨by decide, rfl⟩ rfl (c_put hk r2 (fun sz2 sg2 g1 g2 => ?_))
            refine wq_iinc (ls' := [_, _, _, _, _]) q37_40 rfl rfl ?_
            refine wq_goto q37_43 ?_
            rw [nI_1]
            cases hps : sub (q + 1) with
            | inl q1 =>
              rw [hps] at r3 hpgq hQ
              have hq1 : q1 ≤ L := hpgq
              have r3' : w1 = nI q1 := r3
              subst r3'
              have hw1 : ¬ nI q1 = -1 := nI_nm1 (by omega)
              exact ih (k + 1) p1 (nI q1) sz2 sg2 e (by omega) r1 g2 (fun z => absurd z hw1) (fun p' w' sz' sg' h => hQ _ _ _ _ ⟨h.1, h.2.1, fun _ => h.2.2.2 hw1, fun z => absurd rfl z⟩)
            | inr z =>
              obtain ⟨p3, e3⟩ := z
              rw [hps] at r3 hpgq hQ
              obtain ⟨b1, b2, b3, b4⟩ := (show p1 = p3 ∧ w1 = -1 ∧ sz1 = sz + e3.1.length ∧ sg1 = apL sg sz e3.1 from r3)
              obtain ⟨f1, f2, f3, f4⟩ := hpgq
              dsimp only at f1 f2 f3 f4
              subst b1 b2
              obtain ⟨g3, g4⟩ := g1 (by omega)
              have el : (exOp (0 - c) e e3).1.length = e.1.length + (e3.1.length + 1) := by simp [exOp]
              refine ih (k + 1) p1 (-1) sz2 sg2 (exOp (0 - c) e e3) (by omega) r1 g2 (fun _ => ⟨by rw [el]; omega, ?_, by omega, by omega⟩) hQ
              rw [g4, b4, b3, a2, a1, apL_app, apL_app, ho]
              rfl
        · have ho' : ¬ is38 c = true := by simp [is38, ho]
          rw [if_neg ho'] at hQ
          rw [if_neg ho, if_neg ho]
          refine wq_if_eq q37_24 (fun c24 => ?_) (fun c24 => ?_)
          · refine rV q37_46 ?_
            exact hQ _ _ _ _ (LR_ok rfl hs.2 a1 hsz a2)
          · exact absurd rfl c24
      · rw [here_w h1, if_neg (by decide), if_neg (by decide)]
        refine wq_if_eq q37_24 (fun c24 => ?_) (fun c24 => ?_)
        · refine rV q37_46 ?_
          exact hQ _ _ _ _ (LR_w h1 hs.2 hsz)
        · exact absurd rfl c24
theorem c_readTruth {lv D : Nat} {sub : Nat → PR Ex} (hk : Lok la) (hT : TK hi L) (hlv : lv ≤ 6) (hpg : PGf L D sub) (hd : 3 ≤ d) (hsub : CtR G d hl f dr t hi la L 38 [.ref la, .ref 1, .int (nI (6 - lv)), .int 0] sub) :
    CtR G (d + 1) hl f dr t hi la L 37 [.ref la, .ref 1, .int (nI (6 - lv)), .int 0] (fun p => pB (sub p) (pLoop (hi 2) L is38 sub 240)) := by
  intro p w sz sg Q hp hsz hszp hQ
  obtain ⟨l1, -⟩ := hk.lw (tpS (lwB hi la sz sg) p w) hl f dr t
  refine Ct_of (ls := [_, _, _, _, _]) m_37.1.2.2.1 (Nat.le_of_ble_eq_true rfl) rfl ?_
  refine wq_aload_n q37_0 rfl ?_
  refine wq_aload_n q37_1 rfl ?_
  refine wq_iload_n q37_2 rfl ?_
  refine wq_iload_n q37_3 rfl ?_
  refine cV (As := [_, _, _]) q37_4 m_38 rfl rfl (by first | exact l1 | rfl) ⟨by decide, rfl⟩ rfl (hsub p w sz sg _ hp hsz hszp (fun p1 w1 sz1 sg1 h => ?_))
  refine wq_iconst q37_7 ?_
  refine wq_istore (ls' := [_, _, _, _, _]) q37_8 rfl ?_
  refine LR_bindG (g := pLoop (hi 2) L is38 sub 240) (fun _ => hpg p hp) hszp h (fun e he hk' => ?_) hT.2.1
  exact c_readTruth_loop hk hT hlv hpg hsub hd 240 0 p1 w1 sz1 sg1 e (by omega) h.1 h.2.1 (fun z => ⟨(he z).1, (he z).2.1, (he z).2.2.1, by have := hT.2.1; omega⟩) (fun p' w' sz' sg' hr => hQ _ _ _ _ (hk' _ _ _ _ hr))
theorem c_readTruthB {lv D E : Nat} {par : Nat → Ex → PR Ex} {sub : Nat → PR Ex} (hk : Lok la) (hT : TK hi L) (hlv : lv ≤ 6) (hpg : PGf L D sub) (hd : 3 ≤ d) (hsub : CtR G d hl f dr t hi la L 38 [.ref la, .ref 1, .int (nI (6 - lv)), .int 0] sub) (hB : CtB G d hl f dr t hi la L 38 [.ref la, .ref 1, .int (nI (6 - lv)), .int 1] par)
    (hpB : ∀ (p p0 : Nat) (e : Ex), p ≤ L → p0 < p → e.1.length + p0 ≤ p → RO 15 e → PG L E p0 (par p e)) : CtB G (d + 1) hl f dr t hi la L 37 [.ref la, .ref 1, .int (nI (6 - lv)), .int 1] (fun p e => pB (par p e) (pLoop (hi 2) L is38 sub 240)) := by
  intro p w sz sg sz0 sg0 e p0 Q hp hsz hw hw0 hQ
  obtain ⟨l1, -⟩ := hk.lw (tpS (lwB hi la sz sg) p w) hl f dr t
  refine Ct_of (ls := [_, _, _, _, _]) m_37.1.2.2.1 (Nat.le_of_ble_eq_true rfl) rfl ?_
  refine wq_aload_n q37_0 rfl ?_
  refine wq_aload_n q37_1 rfl ?_
  refine wq_iload_n q37_2 rfl ?_
  refine wq_iload_n q37_3 rfl ?_
  refine cV (As := [_, _, _]) q37_4 m_38 rfl rfl (by first | exact l1 | rfl) ⟨by decide, rfl⟩ rfl (hB p w sz sg sz0 sg0 e p0 _ hp hsz hw hw0 (fun p1 w1 sz1 sg1 h => ?_))
  refine wq_iconst q37_7 ?_
  refine wq_istore (ls' := [_, _, _, _, _]) q37_8 rfl ?_
  refine LR_bindG (g := pLoop (hi 2) L is38 sub 240) (fun z => hpB p p0 e hp (hw0 z).2.1 (hw0 z).2.2.1 (hw0 z).2.2.2) (fun z => (hw0 z).1) h (fun e' he hk' => ?_) hT.2.1
  exact c_readTruth_loop hk hT hlv hpg hsub hd 240 0 p1 w1 sz1 sg1 e' (by omega) h.1 h.2.1 (fun z => ⟨(he z).1, (he z).2.1, (he z).2.2.1, by have := hT.2.1; omega⟩) (fun p' w' sz' sg' hr => hQ _ _ _ _ (hk' _ _ _ _ hr))
theorem c_readCondition_loop {lv : Nat} {sub : Nat → PR Ex} {D sz0 : Nat} {x3 : Int32} {sg0 : Nat → Int32} (hk : Lok la) (hT : TK hi L) (hlv : lv ≤ 6) (hpg : PGf L D sub) (hsub : CtR G d hl f dr t hi la L 37 [.ref la, .ref 1, .int (nI (6 - lv)), .int 0] sub) (hd : 3 ≤ d) :
    ∀ (m k p : Nat) (w : Int32) (sz : Nat) (sg : Nat → Int32) (e : Ex), k + m = 240 → p ≤ L → sz ≤ 241 → (w = -1 → sz = sz0 + e.1.length ∧ sg = apL sg0 sz0 e.1 ∧ sz ≤ p ∧ L ≤ p + m) →
    (∀ p' w' sz' sg', LR L (pM (pLoop (hi 2) L is124 sub m p e) (fun e => e.1)) w sz0 sg0 p' w' sz' sg' → Q none (HP (tpS (lwB hi la sz' sg') p' w') hl f dr t)) →
    wq G (0, 0) (d + 1) 36 10 [some (.ref la), some (.ref 1), some (.int (nI (6 - lv))), some (.int x3), some (.int (nI k))] [] (0, 0) (HP (tpS (lwB hi la sz sg) p w) hl f dr t) Q := by
  have hLm := hT.2.1
  obtain ⟨d, rfl⟩ : ∃ d', d = d' + 3 := ⟨d - 3, by omega⟩
  intro m
  induction m with
  | zero =>
    intro k p w sz sg e hm hp hsz hw hQ
    refine wq_iload q36_10 rfl ?_
    refine wq_sipush q36_12 ?_
    refine wq_icmp_ge q36_15 (fun c15 => ?_) (fun c15 => ?_)
    · refine rV q36_46 ?_
      by_cases h1 : w = -1
      · subst h1
        obtain ⟨a1, a2, a3, a4⟩ := hw rfl
        exact hQ _ _ _ _ (LR_ok rfl hp a1 hsz a2)
      · exact hQ _ _ _ _ (LR_w h1 hp hsz)
    · rw [show (240 : Int32) = nI 240 from rfl, nI_leI (by omega) (by omega)] at c15
      omega
  | succ m ih =>
    intro k p w sz sg e hm hp hsz hw hQ
    obtain ⟨hL, h2⟩ := lwB_T hk hT sz sg
    have hs := tpSkip_le (b := hi 2) hp
    obtain ⟨l1, -⟩ := hk.lw (tpS (lwB hi la sz sg) p w) hl f dr t
    refine wq_iload q36_10 rfl ?_
    refine wq_sipush q36_12 ?_
    refine wq_icmp_ge q36_15 (fun c15 => ?_) (fun c15 => ?_)
    · rw [show (240 : Int32) = nI 240 from rfl, nI_leI (by omega) (by omega)] at c15
      omega
    · refine wq_aload_n q36_18 rfl ?_
      refine wq_bipush q36_19 ?_
      refine cV (As := [_]) q36_21 m_71 rfl rfl rfl ⟨by decide, rfl⟩ rfl (c_takes hL hLm hp ?_)
      rw [h2]
      by_cases h1 : w = -1
      · subst h1
        obtain ⟨a1, a2, a3, a4⟩ := hw rfl
        rw [tat_here]
        generalize hq : tpSkip (hi 2) L p = q at hs
        generalize hc : tat (hi 2) L q = c
        have hpl : pLoop (hi 2) L is124 sub (m + 1) p e = if is124 c = true then pB (sub (q + 1)) (fun p' e' => pLoop (hi 2) L is124 sub m p' (exOp (0 - c) e e')) else pok q e := by
          rw [pLoop, hq, hc]
        rw [hpl] at hQ
        by_cases ho : c = 124
        · have ho' : is124 c = true := by simp [is124, ho]
          rw [if_pos ho'] at hQ
          rw [if_pos ho, if_pos ho]
          have hlt : q < L := tat_lt hc (is124_ok c ho').1
          rw [pass_lt hlt]
          have hpgq := hpg (q + 1) (by omega)
          refine wq_if_eq q36_24 (fun c24 => ?_) (fun c24 => ?_)
          · exact absurd c24 (by decide)
          · refine wq_aload_n q36_27 rfl ?_
            refine wq_aload_n q36_28 rfl ?_
            refine wq_iload_n q36_29 rfl ?_
            refine wq_iconst q36_30 ?_
            refine cV (As := [_, _, _]) q36_31 m_37 rfl rfl (by first | exact l1 | rfl) ⟨by decide, rfl⟩ rfl (hsub (q + 1) (-1) sz sg _ (by omega) hsz (fun _ => by omega) (fun p1 w1 sz1 sg1 hr => ?_))
            obtain ⟨r1, r2, r3, -⟩ := hr
            have r3 := r3 rfl
            obtain ⟨l1, -⟩ := hk.lw (tpS (lwB hi la sz1 sg1) p1 w1) hl f dr t
            refine wq_aload_n q36_34 rfl ?_
            refine wq_bipush q36_35 ?_
            refine cV (As := [_]) q36_37 m_44 rfl rfl (by first | exact l1 | rfl) ⟨by decide, rfl⟩ rfl (c_put hk r2 (fun sz2 sg2 g1 g2 => ?_))
            refine wq_iinc (ls' := [_, _, _, _, _]) q36_40 rfl rfl ?_
            refine wq_goto q36_43 ?_
            rw [nI_1]
            cases hps : sub (q + 1) with
            | inl q1 =>
              rw [hps] at r3 hpgq hQ
              have hq1 : q1 ≤ L := hpgq
              have r3' : w1 = nI q1 := r3
              subst r3'
              have hw1 : ¬ nI q1 = -1 := nI_nm1 (by omega)
              exact ih (k + 1) p1 (nI q1) sz2 sg2 e (by omega) r1 g2 (fun z => absurd z hw1) (fun p' w' sz' sg' h => hQ _ _ _ _ ⟨h.1, h.2.1, fun _ => h.2.2.2 hw1, fun z => absurd rfl z⟩)
            | inr z =>
              obtain ⟨p3, e3⟩ := z
              rw [hps] at r3 hpgq hQ
              obtain ⟨b1, b2, b3, b4⟩ := (show p1 = p3 ∧ w1 = -1 ∧ sz1 = sz + e3.1.length ∧ sg1 = apL sg sz e3.1 from r3)
              obtain ⟨f1, f2, f3, f4⟩ := hpgq
              dsimp only at f1 f2 f3 f4
              subst b1 b2
              obtain ⟨g3, g4⟩ := g1 (by omega)
              have el : (exOp (0 - c) e e3).1.length = e.1.length + (e3.1.length + 1) := by simp [exOp]
              refine ih (k + 1) p1 (-1) sz2 sg2 (exOp (0 - c) e e3) (by omega) r1 g2 (fun _ => ⟨by rw [el]; omega, ?_, by omega, by omega⟩) hQ
              rw [g4, b4, b3, a2, a1, apL_app, apL_app, ho]
              rfl
        · have ho' : ¬ is124 c = true := by simp [is124, ho]
          rw [if_neg ho'] at hQ
          rw [if_neg ho, if_neg ho]
          refine wq_if_eq q36_24 (fun c24 => ?_) (fun c24 => ?_)
          · refine rV q36_46 ?_
            exact hQ _ _ _ _ (LR_ok rfl hs.2 a1 hsz a2)
          · exact absurd rfl c24
      · rw [here_w h1, if_neg (by decide), if_neg (by decide)]
        refine wq_if_eq q36_24 (fun c24 => ?_) (fun c24 => ?_)
        · refine rV q36_46 ?_
          exact hQ _ _ _ _ (LR_w h1 hs.2 hsz)
        · exact absurd rfl c24
theorem c_readCondition {lv D : Nat} {sub : Nat → PR Ex} (hk : Lok la) (hT : TK hi L) (hlv : lv ≤ 6) (hpg : PGf L D sub) (hd : 3 ≤ d) (hsub : CtR G d hl f dr t hi la L 37 [.ref la, .ref 1, .int (nI (6 - lv)), .int 0] sub) :
    CtR G (d + 1) hl f dr t hi la L 36 [.ref la, .ref 1, .int (nI (6 - lv)), .int 0] (fun p => pB (sub p) (pLoop (hi 2) L is124 sub 240)) := by
  intro p w sz sg Q hp hsz hszp hQ
  obtain ⟨l1, -⟩ := hk.lw (tpS (lwB hi la sz sg) p w) hl f dr t
  refine Ct_of (ls := [_, _, _, _, _]) m_36.1.2.2.1 (Nat.le_of_ble_eq_true rfl) rfl ?_
  refine wq_aload_n q36_0 rfl ?_
  refine wq_aload_n q36_1 rfl ?_
  refine wq_iload_n q36_2 rfl ?_
  refine wq_iload_n q36_3 rfl ?_
  refine cV (As := [_, _, _]) q36_4 m_37 rfl rfl (by first | exact l1 | rfl) ⟨by decide, rfl⟩ rfl (hsub p w sz sg _ hp hsz hszp (fun p1 w1 sz1 sg1 h => ?_))
  refine wq_iconst q36_7 ?_
  refine wq_istore (ls' := [_, _, _, _, _]) q36_8 rfl ?_
  refine LR_bindG (g := pLoop (hi 2) L is124 sub 240) (fun _ => hpg p hp) hszp h (fun e he hk' => ?_) hT.2.1
  exact c_readCondition_loop hk hT hlv hpg hsub hd 240 0 p1 w1 sz1 sg1 e (by omega) h.1 h.2.1 (fun z => ⟨(he z).1, (he z).2.1, (he z).2.2.1, by have := hT.2.1; omega⟩) (fun p' w' sz' sg' hr => hQ _ _ _ _ (hk' _ _ _ _ hr))
theorem c_readConditionB {lv D E : Nat} {par : Nat → Ex → PR Ex} {sub : Nat → PR Ex} (hk : Lok la) (hT : TK hi L) (hlv : lv ≤ 6) (hpg : PGf L D sub) (hd : 3 ≤ d) (hsub : CtR G d hl f dr t hi la L 37 [.ref la, .ref 1, .int (nI (6 - lv)), .int 0] sub) (hB : CtB G d hl f dr t hi la L 37 [.ref la, .ref 1, .int (nI (6 - lv)), .int 1] par)
    (hpB : ∀ (p p0 : Nat) (e : Ex), p ≤ L → p0 < p → e.1.length + p0 ≤ p → RO 15 e → PG L E p0 (par p e)) : CtB G (d + 1) hl f dr t hi la L 36 [.ref la, .ref 1, .int (nI (6 - lv)), .int 1] (fun p e => pB (par p e) (pLoop (hi 2) L is124 sub 240)) := by
  intro p w sz sg sz0 sg0 e p0 Q hp hsz hw hw0 hQ
  obtain ⟨l1, -⟩ := hk.lw (tpS (lwB hi la sz sg) p w) hl f dr t
  refine Ct_of (ls := [_, _, _, _, _]) m_36.1.2.2.1 (Nat.le_of_ble_eq_true rfl) rfl ?_
  refine wq_aload_n q36_0 rfl ?_
  refine wq_aload_n q36_1 rfl ?_
  refine wq_iload_n q36_2 rfl ?_
  refine wq_iload_n q36_3 rfl ?_
  refine cV (As := [_, _, _]) q36_4 m_37 rfl rfl (by first | exact l1 | rfl) ⟨by decide, rfl⟩ rfl (hB p w sz sg sz0 sg0 e p0 _ hp hsz hw hw0 (fun p1 w1 sz1 sg1 h => ?_))
  refine wq_iconst q36_7 ?_
  refine wq_istore (ls' := [_, _, _, _, _]) q36_8 rfl ?_
  refine LR_bindG (g := pLoop (hi 2) L is124 sub 240) (fun z => hpB p p0 e hp (hw0 z).2.1 (hw0 z).2.2.1 (hw0 z).2.2.2) (fun z => (hw0 z).1) h (fun e' he hk' => ?_) hT.2.1
  exact c_readCondition_loop hk hT hlv hpg hsub hd 240 0 p1 w1 sz1 sg1 e' (by omega) h.1 h.2.1 (fun z => ⟨(he z).1, (he z).2.1, (he z).2.2.1, by have := hT.2.1; omega⟩) (fun p' w' sz' sg' hr => hQ _ _ _ _ (hk' _ _ _ _ hr))
end READLAW2
