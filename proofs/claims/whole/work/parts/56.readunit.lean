/-! THE CLASS reads a law: units, conditions by levels -/
section READUNIT
variable {G : ph_G} {d f dr t L p la sz : Nat} {hi : Nat → Nat → Int32} {hl : Nat → Nat → Int64} {w : Int32} {Q : Option Value → ph_H → Prop} {sg : Nat → Int32}
/-- the piece of a unit behind its first sign, where nothing is opened -/
theorem c_unit_sum {lv : Nat} {x4 : Int32} {x6 : Option Value} (hk : Lok la) (hT : TK hi L) (hlv : lv ≤ 6) (hsum : CtR G (d + 3) hl f dr t hi la L 39 [.ref la, .ref 1, .int (nI (6 - lv))] (pSum (hi 2) L lv)) (hp : p ≤ L) (hsz : sz ≤ 241) (hw : w = -1 → sz ≤ p)
    (hQ : ∀ p' w' sz' sg', LR L (pM (pB (pSum (hi 2) L lv p) (pCmp (hi 2) L lv)) (fun e => e.1)) w sz sg p' w' sz' sg' → Q none (HP (tpS (lwB hi la sz' sg') p' w') hl f dr t)) :
    wq G (0, 0) (d + 4) 38 28 [some (.ref la), some (.ref 1), some (.int (nI (6 - lv))), some (.int 0), some (.int x4), none, x6] [] (0, 0) (HP (tpS (lwB hi la sz sg) p w) hl f dr t) Q := by
  obtain ⟨l1, -⟩ := hk.lw (tpS (lwB hi la sz sg) p w) hl f dr t
  refine wq_iconst q38_28 ?_
  refine wq_istore (ls' := [_, _, _, _, _, _, _]) q38_29 rfl ?_
  refine wq_iload q38_31 rfl ?_
  refine wq_if_eq q38_33 (fun c33 => ?_) (fun c33 => ?_)
  · refine wq_iload q38_45 rfl ?_
    refine wq_if_eq q38_47 (fun c47 => ?_) (fun c47 => ?_)
    · refine wq_iload q38_73 rfl ?_
      refine wq_if_eq q38_75 (fun c75 => ?_) (fun c75 => ?_)
      · refine wq_iload_n q38_94 rfl ?_
        refine wq_if_ne q38_95 (fun c95 => ?_) (fun c95 => ?_)
        · exact absurd rfl c95
        · refine wq_aload_n q38_98 rfl ?_
          refine wq_aload_n q38_99 rfl ?_
          refine wq_iload_n q38_100 rfl ?_
          refine cV (As := [_, _]) q38_101 m_39 rfl rfl (by first | exact l1 | rfl) ⟨by decide, rfl⟩ rfl (hsum p w sz sg _ hp hsz hw (fun p1 w1 sz1 sg1 h => ?_))
          refine LR_bindG (g := pCmp (hi 2) L lv) (fun _ => pSum_ok lv p hp) hw h (fun e he hk' => ?_) hT.2.1
          exact c_unit_cmp hk hT hlv hsum h.1 h.2.1 (fun z => ⟨(he z).1, (he z).2.1, (he z).2.2.1⟩) (fun p' w' sz' sg' hr => hQ _ _ _ _ (hk' _ _ _ _ hr))
      · exact absurd rfl c75
    · exact absurd rfl c47
  · exact absurd rfl c33
theorem c_readUnit {lv : Nat} (hk : Lok la) (hT : TK hi L) (hlv : lv ≤ 6) (hsum : CtR G (d + 3) hl f dr t hi la L 39 [.ref la, .ref 1, .int (nI (6 - lv))] (pSum (hi 2) L lv))
    (hU : ∀ l, lv = l + 1 → CtR G (d + 3) hl f dr t hi la L 38 [.ref la, .ref 1, .int (nI (6 - l)), .int 0] (pUnit (hi 2) L l)) (hC : ∀ l, lv = l + 1 → CtR G (d + 3) hl f dr t hi la L 36 [.ref la, .ref 1, .int (nI (6 - l)), .int 0] (pCon (hi 2) L (pUnit (hi 2) L l))) :
    CtR G (d + 4) hl f dr t hi la L 38 [.ref la, .ref 1, .int (nI (6 - lv)), .int 0] (pUnit (hi 2) L lv) := by
  rw [pUnit_I]
  intro p w sz sg Q hp hsz hszp hQ
  obtain ⟨hL, h2⟩ := lwB_T hk hT sz sg
  have hLm := hT.2.1
  have hs := tpSkip_le (b := hi 2) hp
  have hid := tpSkip_id (b := hi 2) hp
  obtain ⟨l1, -⟩ := hk.lw (tpS (lwB hi la sz sg) p w) hl f dr t
  refine Ct_of (ls := [_, _, _, _, _, _, _]) m_38.1.2.2.1 (Nat.le_of_ble_eq_true rfl) rfl ?_
  refine wq_aload_n q38_0 rfl ?_
  refine cV (As := []) q38_1 m_69 rfl rfl rfl ⟨by decide, rfl⟩ rfl (c_next hL hLm hp ?_)
  rw [h2]
  by_cases hw : w = -1
  · subst hw
    have hszp := hszp rfl
    rw [tat_here]
    generalize hq : tpSkip (hi 2) L p = q at hs hid
    generalize hc : tat (hi 2) L q = c
    have hlt : c = 33 ∨ c = 40 → q < L := fun z => tat_lt hc (by rcases z with rfl | rfl <;> decide)
    have opens : c = 33 ∨ c = 40 → ∀ x6, wq G (0, 0) (d + 4) 38 24 [some (.ref la), some (.ref 1), some (.int (nI (6 - lv))), some (.int 0), some (.int c), none, x6] [] (0, 0) (HP (tpS (lwB hi la sz sg) q (-1)) hl f dr t) Q := by
      intro hc0 x6
      have hlt := hlt hc0
      refine wq_iconst q38_24 ?_
      refine wq_goto q38_25 ?_
      refine wq_istore (ls' := [_, _, _, _, _, _, _]) q38_29 rfl ?_
      refine wq_iload q38_31 rfl ?_
      refine wq_if_eq q38_33 (fun c33 => ?_) (fun c33 => ?_)
      · exact absurd c33 (by decide)
      · refine wq_aload_n q38_36 rfl ?_
        refine wq_iload_n q38_37 rfl ?_
        refine cS' (As := [_, _]) q38_38 m_42 rfl rfl rfl (c_enters hL hLm hs.2 (fun hx => ?_) (fun hx => ?_))
        · have hl0 := lv_ne hlv hx
          subst hl0
          have hres : pUnitI (hi 2) L 0 (pInu (hi 2) L 0) p = pno q := by
            unfold pUnitI
            rw [hq, hc]
            rcases hc0 with rfl | rfl
            · rfl
            · rfl
          rw [hres] at hQ
          refine wq_if_ne q38_41 (fun c41 => ?_) (fun c41 => ?_)
          · exact absurd rfl c41
          · rw [h2, hid, tpF_1]
            refine rV q38_44 ?_
            exact hQ _ _ _ _ (LR_no rfl hs.2 hsz)
        · obtain ⟨l, rfl⟩ := lvl_lt hlv hx
          rw [pass_lt hlt]
          have en : nI (6 - (l + 1)) + 1 = nI (6 - l) := by rw [nI_1]; congr 1; omega
          refine wq_if_ne q38_41 (fun c41 => ?_) (fun c41 => ?_)
          · refine wq_iload q38_45 rfl ?_
            refine wq_if_eq q38_47 (fun c47 => ?_) (fun c47 => ?_)
            · exact absurd c47 (by decide)
            · rcases hc0 with rfl | rfl
              · have hres : pUnitI (hi 2) L (l + 1) (pInu (hi 2) L (l + 1)) p = pB (pUnit (hi 2) L l (q + 1)) (fun p' e => pok p' (exNt e)) := by
                  unfold pUnitI
                  rw [hq, hc]
                  rfl
                rw [hres] at hQ
                refine wq_iload q38_50 rfl ?_
                refine wq_bipush q38_52 ?_
                refine wq_icmp_ne q38_54 (fun c54 => ?_) (fun c54 => ?_)
                · exact absurd rfl c54
                · refine wq_aload_n q38_57 rfl ?_
                  refine wq_aload_n q38_58 rfl ?_
                  refine wq_iload_n q38_59 rfl ?_
                  refine wq_iconst q38_60 ?_
                  refine wq_iadd q38_61 ?_
                  rw [en]
                  have hpgq := pUnit_ok (b := hi 2) (L := L) l (q + 1) (by omega)
                  refine wq_iconst q38_62 ?_
                  refine cV (As := [_, _, _]) q38_63 m_38 rfl rfl (by first | exact l1 | rfl) ⟨by decide, rfl⟩ rfl (hU l rfl (q + 1) (-1) sz sg _ (by omega) hsz (fun _ => by omega) (fun p1 w1 sz1 sg1 hr => ?_))
                  obtain ⟨r1, r2, r3, -⟩ := hr
                  have r3 := r3 rfl
                  obtain ⟨l1, -⟩ := hk.lw (tpS (lwB hi la sz1 sg1) p1 w1) hl f dr t
                  refine wq_aload_n q38_66 rfl ?_
                  refine wq_bipush q38_67 ?_
                  refine cV (As := [_]) q38_69 m_44 rfl rfl (by first | exact l1 | rfl) ⟨by decide, rfl⟩ rfl (c_put hk r2 (fun sz2 sg2 g1 g2 => ?_))
                  refine rV q38_72 ?_
                  cases hps : pUnit (hi 2) L l (q + 1) with
                  | inl q1 =>
                    rw [hps] at r3 hQ
                    have r3' : w1 = nI q1 := r3
                    subst r3'
                    exact hQ _ _ _ _ (LR_no rfl r1 g2)
                  | inr z =>
                    obtain ⟨p3, e3⟩ := z
                    rw [hps] at r3 hpgq hQ
                    obtain ⟨b1, b2, b3, b4⟩ := (show p1 = p3 ∧ w1 = -1 ∧ sz1 = sz + e3.1.length ∧ sg1 = apL sg sz e3.1 from r3)
                    obtain ⟨f1, f2, f3, f4⟩ := hpgq
                    dsimp only at f1 f2 f3 f4
                    subst b1 b2
                    obtain ⟨g3, g4⟩ := g1 (by omega)
                    have el : (exNt e3).1.length = e3.1.length + 1 := by simp [exNt]
                    refine hQ _ _ _ _ (LR_ok (out := (exNt e3).1) rfl r1 (by rw [el]; omega) g2 ?_)
                    rw [g4, b4, b3, apL_app]
                    rfl
              · have hres : pUnitI (hi 2) L (l + 1) (pInu (hi 2) L (l + 1)) p = pB (pCon (hi 2) L (pUnit (hi 2) L l) (q + 1)) (fun p' e => pEnd (hi 2) L 41 p' e) := by
                  unfold pUnitI
                  rw [hq, hc]
                  rfl
                rw [hres] at hQ
                refine wq_iload q38_50 rfl ?_
                refine wq_bipush q38_52 ?_
                refine wq_icmp_ne q38_54 (fun c54 => ?_) (fun c54 => ?_)
                · refine wq_iload q38_73 rfl ?_
                  refine wq_if_eq q38_75 (fun c75 => ?_) (fun c75 => ?_)
                  · exact absurd c75 (by decide)
                  · refine wq_aload_n q38_78 rfl ?_
                    refine wq_aload_n q38_79 rfl ?_
                    refine wq_iload_n q38_80 rfl ?_
                    refine wq_iconst q38_81 ?_
                    refine wq_iadd q38_82 ?_
                    rw [en]
                    have hpgq := pCon_ok (b := hi 2) (pUnit_ok (b := hi 2) (L := L) l) (q + 1) (by omega)
                    refine wq_iconst q38_83 ?_
                    refine cV (As := [_, _, _]) q38_84 m_36 rfl rfl (by first | exact l1 | rfl) ⟨by decide, rfl⟩ rfl (hC l rfl (q + 1) (-1) sz sg _ (by omega) hsz (fun _ => by omega) (fun p1 w1 sz1 sg1 hr => ?_))
                    obtain ⟨r1, r2, r3, -⟩ := hr
                    have r3 := r3 rfl
                    obtain ⟨hL1, h21⟩ := lwB_T hk hT sz1 sg1
                    have hs1 := tpSkip_le (b := hi 2) r1
                    refine wq_aload_n q38_87 rfl ?_
                    refine wq_bipush q38_88 ?_
                    refine cV (As := [_]) q38_90 m_72 rfl rfl rfl ⟨by decide, rfl⟩ rfl (c_expect hL1 hLm r1 (fun p2 w2 he => ?_))
                    refine rV q38_93 ?_
                    rw [h21] at he
                    cases hps : pCon (hi 2) L (pUnit (hi 2) L l) (q + 1) with
                    | inl q1 =>
                      rw [hps] at r3 hpgq hQ
                      have hq1 : q1 ≤ L := hpgq
                      have r3' : w1 = nI q1 := r3
                      subst r3'
                      have hw1 : ¬ nI q1 = -1 := nI_nm1 (by omega)
                      rw [here_w hw1, if_neg (by decide), tpF_w hw1] at he
                      cases he
                      exact hQ _ _ _ _ (LR_no rfl hs1.2 r2)
                    | inr z =>
                      obtain ⟨p3, e3⟩ := z
                      rw [hps] at r3 hpgq hQ
                      obtain ⟨a1, a2, a3, a4⟩ := (show p1 = p3 ∧ w1 = -1 ∧ sz1 = sz + e3.1.length ∧ sg1 = apL sg sz e3.1 from r3)
                      subst a1 a2 a3 a4
                      rw [tat_here] at he
                      have hQ : ∀ p' w' sz' sg', LR L (pM (pEnd (hi 2) L 41 p1 e3) (fun e => e.1)) (-1) sz sg p' w' sz' sg' → Q none (HP (tpS (lwB hi la sz' sg') p' w') hl f dr t) := hQ
                      unfold pEnd at hQ
                      by_cases hc2 : tat (hi 2) L (tpSkip (hi 2) L p1) = 41
                      · rw [if_pos hc2, pass_lt (tat_lt hc2 (by decide))] at he
                        rw [if_pos hc2] at hQ
                        cases he
                        exact hQ _ _ _ _ (LR_ok (out := e3.1) rfl (tat_lt hc2 (by decide)) rfl r2 rfl)
                      · rw [if_neg hc2, tpF_1] at he
                        rw [if_neg hc2] at hQ
                        cases he
                        exact hQ _ _ _ _ (LR_no rfl hs1.2 r2)
                · exact absurd c54 (by decide)
          · exact absurd c41 (by decide)
    have stop : ¬ c = 33 → ¬ c = 40 → ∀ x6, wq G (0, 0) (d + 4) 38 28 [some (.ref la), some (.ref 1), some (.int (nI (6 - lv))), some (.int 0), some (.int c), none, x6] [] (0, 0) (HP (tpS (lwB hi la sz sg) q (-1)) hl f dr t) Q := by
      intro n1 n2 x6
      have hres : pUnitI (hi 2) L lv (pInu (hi 2) L lv) p = pB (pSum (hi 2) L lv q) (pCmp (hi 2) L lv) := by
        unfold pUnitI
        rw [hq, hc, if_neg n1, if_neg n2]
      rw [hres] at hQ
      exact c_unit_sum hk hT hlv hsum hs.2 hsz (fun _ => by omega) hQ
    refine wq_istore (ls' := [_, _, _, _, _, _, _]) q38_4 rfl ?_
    refine wq_iload_n q38_6 rfl ?_
    refine wq_if_ne q38_7 (fun c7 => ?_) (fun c7 => ?_)
    · exact absurd rfl c7
    · refine wq_iload q38_10 rfl ?_
      refine wq_bipush q38_12 ?_
      refine wq_icmp_eq q38_14 (fun c14 => ?_) (fun c14 => ?_)
      · exact opens (Or.inl c14) _
      · refine wq_iload q38_17 rfl ?_
        refine wq_bipush q38_19 ?_
        refine wq_icmp_ne q38_21 (fun c21 => ?_) (fun c21 => ?_)
        · exact stop c14 c21 _
        · exact opens (Or.inr c21) _
  · rw [here_w hw]
    refine wq_istore (ls' := [_, _, _, _, _, _, _]) q38_4 rfl ?_
    refine wq_iload_n q38_6 rfl ?_
    refine wq_if_ne q38_7 (fun c7 => ?_) (fun c7 => ?_)
    · exact absurd rfl c7
    · refine wq_iload q38_10 rfl ?_
      refine wq_bipush q38_12 ?_
      refine wq_icmp_eq q38_14 (fun c14 => ?_) (fun c14 => ?_)
      · exact absurd c14 (by decide)
      · refine wq_iload q38_17 rfl ?_
        refine wq_bipush q38_19 ?_
        refine wq_icmp_ne q38_21 (fun c21 => ?_) (fun c21 => ?_)
        · exact c_unit_sum hk hT hlv hsum hs.2 hsz (fun z => absurd z hw) (fun p' w' sz' sg' h => hQ _ _ _ _ ⟨h.1, h.2.1, fun z => absurd z hw, h.2.2.2⟩)
        · exact absurd c21 (by decide)
/-- units and conditions at each level -/
theorem c_readUp {lv : Nat} (hk : Lok la) (hT : TK hi L) (hlv : lv ≤ 6) (h : CtR G (d + 8 + 3 * lv) hl f dr t hi la L 38 [.ref la, .ref 1, .int (nI (6 - lv)), .int 0] (pUnit (hi 2) L lv)) : CtR G (d + 9 + 3 * lv) hl f dr t hi la L 37 [.ref la, .ref 1, .int (nI (6 - lv)), .int 0] (pTru (hi 2) L (pUnit (hi 2) L lv)) ∧ CtR G (d + 10 + 3 * lv) hl f dr t hi la L 36 [.ref la, .ref 1, .int (nI (6 - lv)), .int 0] (pCon (hi 2) L (pUnit (hi 2) L lv)) := by
  have h1 : CtR G (d + 9 + 3 * lv) hl f dr t hi la L 37 [.ref la, .ref 1, .int (nI (6 - lv)), .int 0] (pTru (hi 2) L (pUnit (hi 2) L lv)) := by
    rw [show d + 9 + 3 * lv = d + 8 + 3 * lv + 1 by omega]
    exact c_readTruth hk hT hlv (pUnit_ok lv) (by omega) h
  refine ⟨h1, ?_⟩
  rw [show d + 10 + 3 * lv = d + 9 + 3 * lv + 1 by omega]
  exact c_readCondition hk hT hlv (pTru_ok (pUnit_ok lv)) (by omega) h1
theorem c_readUC (hk : Lok la) (hT : TK hi L) : ∀ lv, lv ≤ 6 → ∀ d, CtR G (d + 8 + 3 * lv) hl f dr t hi la L 38 [.ref la, .ref 1, .int (nI (6 - lv)), .int 0] (pUnit (hi 2) L lv) := by
  intro lv
  induction lv with
  | zero =>
    intro hlv d
    exact c_readUnit (d := d + 4) hk hT hlv (c_readSum (d := d) hk hT 0 (by omega)) (fun l hl' => by omega) (fun l hl' => by omega)
  | succ lv ih =>
    intro hlv d
    have ih := ih (by omega)
    have ih2 := c_readSum (G := G) (d := d) (hl := hl) (f := f) (dr := dr) (t := t) hk hT (lv + 1) hlv
    rw [show d + 8 + 3 * (lv + 1) = d + 3 * lv + 7 + 4 by omega]
    refine c_readUnit (d := d + 3 * lv + 7) hk hT hlv ?_ (fun l hl' => ?_) (fun l hl' => ?_)
    · rw [show d + 3 * lv + 7 + 3 = d + 7 + 3 * (lv + 1) by omega]
      exact ih2
    · have : l = lv := by omega
      subst this
      rw [show d + 3 * l + 7 + 3 = d + 2 + 8 + 3 * l by omega]
      exact ih (d + 2)
    · have : l = lv := by omega
      subst this
      rw [show d + 3 * l + 7 + 3 = d + 10 + 3 * l by omega]
      exact (c_readUp hk hT (by omega) (ih d)).2
end READUNIT
