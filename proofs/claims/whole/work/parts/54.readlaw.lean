/-! THE CLASS reads a law -/
def lwB (hi : Nat → Nat → Int32) (la sz : Nat) (sg : Nat → Int32) : Nat → Nat → Int32 := upC (up2 hi la 2 (nI sz)) (la + 1) sg
def apL (sg : Nat → Int32) (sz : Nat) (out : List Int32) : Nat → Int32 := fun j => if sz ≤ j ∧ j < sz + out.length then out.getD (j - sz) 0 else sg j
theorem apL_nil (sg : Nat → Int32) (sz : Nat) : apL sg sz [] = sg := by
  funext j
  unfold apL
  rw [if_neg (by simp only [List.length_nil]; omega)]
theorem apL_app (sg : Nat → Int32) (sz : Nat) (a b : List Int32) : apL (apL sg sz a) (sz + a.length) b = apL sg sz (a ++ b) := by
  funext j
  unfold apL
  simp only [List.length_append]
  by_cases h1 : sz ≤ j ∧ j < sz + a.length
  · rw [if_neg (by omega), if_pos h1, if_pos (by omega), gd_l (by omega)]
  · rw [if_neg h1]
    by_cases h2 : sz + a.length ≤ j ∧ j < sz + a.length + b.length
    · rw [if_pos h2, if_pos (by omega), show j - sz = a.length + (j - (sz + a.length)) by omega, gd_r]
    · rw [if_neg h2, if_neg (by omega)]
theorem apL_one (sg : Nat → Int32) (sz : Nat) (x : Int32) : va_up sg sz x = apL sg sz [x] := by
  funext j
  unfold apL va_up
  by_cases h : j = sz
  · subst h
    rw [if_pos rfl, if_pos (by simp only [List.length_cons, List.length_nil]; omega), Nat.sub_self]
    rfl
  · rw [if_neg h, if_neg (by simp only [List.length_cons, List.length_nil]; omega)]
def pM {α : Type} (x : PR α) (g : α → List Int32) : PR (List Int32) := match x with
  | .inr r => .inr (r.1, g r.2)
  | .inl q => .inl q
def LRc (res : PR (List Int32)) (sz : Nat) (sg : Nat → Int32) (p' : Nat) (w' : Int32) (sz' : Nat) (sg' : Nat → Int32) : Prop := match res with
  | .inr r => p' = r.1 ∧ w' = -1 ∧ sz' = sz + r.2.length ∧ sg' = apL sg sz r.2
  | .inl q => w' = nI q
/-- how a piece of a law leaves the tape and the signs -/
def LR (L : Nat) (res : PR (List Int32)) (w : Int32) (sz : Nat) (sg : Nat → Int32) (p' : Nat) (w' : Int32) (sz' : Nat) (sg' : Nat → Int32) : Prop :=
  p' ≤ L ∧ sz' ≤ 241 ∧ (w = -1 → LRc res sz sg p' w' sz' sg') ∧ (¬ w = -1 → w' = w)
/-- a tape -/
def TK (hi : Nat → Nat → Int32) (L : Nat) : Prop := hi 1 1 = nI L ∧ L ≤ 240 ∧ TpB (hi 2) L
def CtR (G : ph_G) (d : Nat) (hl : Nat → Nat → Int64) (f dr t : Nat) (hi : Nat → Nat → Int32) (la L k : Nat) (args : List Value) (par : Nat → PR Ex) : Prop :=
  ∀ (p : Nat) (w : Int32) (sz : Nat) (sg : Nat → Int32) (Q : Option Value → ph_H → Prop), p ≤ L → sz ≤ 241 → (w = -1 → sz ≤ p) → (∀ p' w' sz' sg', LR L (pM (par p) (fun e => e.1)) w sz sg p' w' sz' sg' → Q none (HP (tpS (lwB hi la sz' sg') p' w') hl f dr t)) → Ct G (0, 0) d k args (HP (tpS (lwB hi la sz sg) p w) hl f dr t) Q
theorem here_w {b : Nat → Int32} {L p : Nat} {w : Int32} (h : ¬ w = -1) : tpHere b L p w = -1 := by unfold tpHere; rw [if_neg h]
theorem tpF_w {w : Int32} {q : Nat} (h : ¬ w = -1) : tpF w q = w := by unfold tpF; rw [if_neg h]
theorem tpF_1 {q : Nat} : tpF (-1) q = nI q := by unfold tpF; rw [if_pos rfl]
section READLAW
variable {G : ph_G} {d f dr t L p la sz : Nat} {hi : Nat → Nat → Int32} {hl : Nat → Nat → Int64} {w : Int32} {Q : Option Value → ph_H → Prop} {sg : Nat → Int32}
theorem lwB_o {b : Nat} (h : b ≠ la ∧ b ≠ la + 1) : lwB hi la sz sg b = hi b := by
  unfold lwB
  rw [upC_o _ _ h.2, up2_o _ _ _ h.1]
theorem lwB_T (hk : Lok la) (hT : TK hi L) (sz : Nat) (sg : Nat → Int32) : lwB hi la sz sg 1 1 = nI L ∧ lwB hi la sz sg 2 = hi 2 := by
  have h1 : lwB hi la sz sg 1 = hi 1 := lwB_o (by rcases hk with rfl | rfl | rfl | rfl | rfl <;> decide)
  have h2 : lwB hi la sz sg 2 = hi 2 := lwB_o (by rcases hk with rfl | rfl | rfl | rfl | rfl <;> decide)
  exact ⟨by rw [h1]; exact hT.1, h2⟩
theorem lw_put (hk : Lok la) (x : Int32) : up2 (tpS (lwB hi la sz sg) p w) (la + 1) sz x = tpS (lwB hi la sz (va_up sg sz x)) p w := by
  have h1 : la + 1 ≠ 1 := by rcases hk with rfl | rfl | rfl | rfl | rfl <;> decide
  have h2 : la + 1 ≠ la := by omega
  unfold tpS lwB
  rw [up2_comm _ _ _ (Or.inl h1.symm), up2_comm _ _ _ (Or.inl h1.symm), up2_C _ (la + 1), upC_C, upC_s]
theorem lw_size (hk : Lok la) (sz' : Nat) : up2 (tpS (lwB hi la sz sg) p w) la 2 (nI sz') = tpS (lwB hi la sz' sg) p w := by
  have h1 : la ≠ 1 := by rcases hk with rfl | rfl | rfl | rfl | rfl <;> decide
  have h2 : la ≠ la + 1 := by omega
  unfold tpS lwB
  rw [up2_comm _ _ _ (Or.inl h1.symm), up2_comm _ _ _ (Or.inl h1.symm), up2_C _ la, upC_comm _ _ _ h2.symm, upC_o _ _ h2, up2_C hi la, upC_C, upC_s, vu_uu, ← up2_C]
theorem c_put {x : Int32} (hk : Lok la) (hsz : sz ≤ 241) (hQ : ∀ sz' sg', (sz < 241 → sz' = sz + 1 ∧ sg' = apL sg sz [x]) → sz' ≤ 241 → Q none (HP (tpS (lwB hi la sz' sg') p w) hl f dr t)) : Ct G (0, 0) d 44 [.ref la, .int x] (HP (tpS (lwB hi la sz sg) p w) hl f dr t) Q := by
  obtain ⟨l1, l2, l3, l4, l5, l6⟩ := hk.lw (tpS (lwB hi la sz sg) p w) hl f dr t
  have e2 : ∀ sg, hI (HP (tpS (lwB hi la sz sg) p w) hl f dr t) la 2 = nI sz := by
    intro sg
    have h1 : la ≠ 1 := by rcases hk with rfl | rfl | rfl | rfl | rfl <;> decide
    show tpS (lwB hi la sz sg) p w la 2 = _
    rw [tpS_o _ _ _ h1]
    unfold lwB
    rw [upC_o _ _ (by omega), up2_s, vu_s]
  refine Ct_of (ls := [_, _]) m_44.1.2.2.1 (Nat.le_of_ble_eq_true rfl) rfl ?_
  refine wq_aload_n q44_0 rfl ?_
  refine wq_getI q44_1 (by first | exact l1 | rfl) rfl ?_
  refine wq_sipush q44_4 ?_
  refine wq_icmp_ge q44_7 (fun c7 => ?_) (fun c7 => ?_)
  · rw [e2, show (241 : Int32) = nI 241 from rfl, nI_leI (by omega) (by omega)] at c7
    refine rV q44_30 ?_
    exact hQ sz sg (fun z => by omega) hsz
  · rw [e2, show (241 : Int32) = nI 241 from rfl, nI_leI (by omega) (by omega)] at c7
    refine wq_aload_n q44_10 rfl ?_
    refine wq_getR q44_11 (by first | exact l1 | exact l2 | rfl) rfl (by first | exact l1 | exact l2 | rfl) ?_
    refine wq_aload_n q44_14 rfl ?_
    refine wq_getI q44_15 (by first | exact l1 | exact l2 | rfl) rfl ?_
    rw [e2]
    refine wq_iload_n q44_18 rfl ?_
    refine sI q44_19 (by first | exact l4 | exact l6 | rfl) (rfl) (by omega) (by first | decide | omega) (by first | exact l4 | exact l6 | rfl) ?_
    rw [hpS, lw_put hk]
    refine wq_aload_n q44_20 rfl ?_
    refine wq_dup q44_21 rfl ?_
    refine wq_getI q44_22 (by first | exact l1 | rfl) rfl ?_
    rw [e2]
    refine wq_iconst q44_25 ?_
    refine wq_iadd q44_26 ?_
    refine wq_putI q44_27 (by first | exact l1 | rfl) rfl rfl rfl ?_
    refine rV q44_30 ?_
    rw [nI_1, hpS, lw_size hk]
    exact hQ (sz + 1) _ (fun _ => ⟨rfl, apL_one _ _ _⟩) (by omega)
theorem c_isComparison {x : Int32} {h : ph_H} (hQ : Q (some (.int (if isCmp x = true then 1 else 0))) h) : Ct G (0, 0) d 43 [.int x] h Q := by
  have one : isCmp x = true → wq G (0, 0) d 43 18 [some (.int x)] [] (0, 0) h Q := by
    intro hc
    rw [if_pos hc] at hQ
    refine wq_iconst q43_18 ?_
    refine wq_goto q43_19 ?_
    refine rI q43_23 rfl ?_
    exact hQ
  refine Ct_of (ls := [_]) m_43.1.2.2.1 (Nat.le_of_ble_eq_true rfl) rfl ?_
  refine wq_iload_n q43_0 rfl ?_
  refine wq_bipush q43_1 ?_
  refine wq_icmp_eq q43_3 (fun c3 => ?_) (fun c3 => ?_)
  · exact one (by simp [isCmp, c3])
  · refine wq_iload_n q43_6 rfl ?_
    refine wq_bipush q43_7 ?_
    refine wq_icmp_eq q43_9 (fun c9 => ?_) (fun c9 => ?_)
    · exact one (by simp [isCmp, c9])
    · refine wq_iload_n q43_12 rfl ?_
      refine wq_bipush q43_13 ?_
      refine wq_icmp_ne q43_15 (fun c15 => ?_) (fun c15 => ?_)
      · rw [if_neg (by simp [isCmp, c3, c9, c15])] at hQ
        refine wq_iconst q43_22 ?_
        refine rI q43_23 rfl ?_
        exact hQ
      · exact one (by simp [isCmp, c15])
theorem c_enters {x : Int32} (hL : hi 1 1 = nI L) (hLm : L ≤ 240) (hp : p ≤ L) (h0 : 6 ≤ x → Q (some (.int 0)) (HP (tpS hi (tpSkip (hi 2) L p) (tpF w (tpSkip (hi 2) L p))) hl f dr t)) (h1 : x < 6 → Q (some (.int 1)) (HP (tpS hi (tpPass L p) w) hl f dr t)) : Ct G (0, 0) (d + 3) 42 [.ref 1, .int x] (HP (tpS hi p w) hl f dr t) Q := by
  refine Ct_of (ls := [_, _]) m_42.1.2.2.1 (Nat.le_of_ble_eq_true rfl) rfl ?_
  refine wq_iload_n q42_0 rfl ?_
  refine wq_bipush q42_1 ?_
  refine wq_icmp_lt q42_3 (fun c3 => ?_) (fun c3 => ?_)
  · refine wq_aload_n q42_12 rfl ?_
    refine cV (As := []) q42_13 m_70 rfl rfl rfl ⟨by decide, rfl⟩ rfl (c_pass hL hLm hp ?_)
    refine wq_iconst q42_16 ?_
    refine rI q42_17 rfl ?_
    exact h1 c3
  · refine wq_aload_n q42_6 rfl ?_
    refine cV (As := []) q42_7 m_74 rfl rfl rfl ⟨by decide, rfl⟩ rfl (c_fail hL hLm hp ?_)
    refine wq_iconst q42_10 ?_
    refine rI q42_11 rfl ?_
    exact h0 (Int32.not_lt.mp c3)
theorem LR_ok {res : PR (List Int32)} {p1 sz1 : Nat} {out : List Int32} {sg1 : Nat → Int32} (hr : res = .inr (p1, out)) (hp : p1 ≤ L) (hz : sz1 = sz + out.length) (hz2 : sz1 ≤ 241) (hs : sg1 = apL sg sz out) : LR L res (-1) sz sg p1 (-1) sz1 sg1 := ⟨hp, hz2, fun _ => by rw [hr]; exact ⟨rfl, rfl, hz, hs⟩, fun z => absurd rfl z⟩
theorem LR_no {res : PR (List Int32)} {q p1 sz1 : Nat} {sg1 : Nat → Int32} (hr : res = .inl q) (hp : p1 ≤ L) (hz : sz1 ≤ 241) : LR L res (-1) sz sg p1 (nI q) sz1 sg1 := ⟨hp, hz, fun _ => by rw [hr]; exact rfl, fun z => absurd rfl z⟩
theorem LR_w {res : PR (List Int32)} {p1 sz1 : Nat} {sg1 : Nat → Int32} (hw : ¬ w = -1) (hp : p1 ≤ L) (hz : sz1 ≤ 241) : LR L res w sz sg p1 w sz1 sg1 := ⟨hp, hz, fun z => absurd z hw, fun _ => rfl⟩
theorem pass_lt {q : Nat} (h : q < L) : tpPass L q = q + 1 := by unfold tpPass; rw [if_pos h]
theorem lv_ne {lv : Nat} (hlv : lv ≤ 6) (h : 6 ≤ nI (6 - lv)) : lv = 0 := by
  rw [show (6 : Int32) = nI 6 from rfl, nI_leI (by omega) (by omega)] at h
  omega
theorem lvl_lt {lv : Nat} (hlv : lv ≤ 6) (h : nI (6 - lv) < 6) : ∃ l, lv = l + 1 := by
  rw [show (6 : Int32) = nI 6 from rfl, nI_ltI (by omega) (by omega)] at h
  exact ⟨lv - 1, by omega⟩
theorem LR_bind {P : Prop} {ops : Int32 → Bool} {par sub : Nat → PR Ex} {p p1 sz1 : Nat} {w1 : Int32} {sg1 : Nat → Int32} {D : Nat} (hpar : PG L D p (par p)) (hszp : w = -1 → sz ≤ p) (h : LR L (pM (par p) (fun e => e.1)) w sz sg p1 w1 sz1 sg1)
    (K : ∀ e : Ex, (w1 = -1 → sz1 = sz + e.1.length ∧ sg1 = apL sg sz e.1 ∧ sz1 ≤ p1 ∧ L ≤ p1 + 240) → (∀ p' w' sz' sg', LR L (pM (pLoop (hi 2) L ops sub 240 p1 e) (fun e => e.1)) w1 sz sg p' w' sz' sg' → LR L (pM (pB (par p) (pLoop (hi 2) L ops sub 240)) (fun e => e.1)) w sz sg p' w' sz' sg') → P) (hL240 : L ≤ 240) : P := by
  obtain ⟨r1, r2, r3, r4⟩ := h
  by_cases hw : w = -1
  · subst hw
    have r3 := r3 rfl
    have hszp := hszp rfl
    cases hps : par p with
    | inl q1 =>
      rw [hps] at r3 hpar K
      have hq1 : q1 ≤ L := hpar
      have r3' : w1 = nI q1 := r3
      have hw1 : ¬ w1 = -1 := by rw [r3']; exact nI_nm1 (by omega)
      exact K (exNum 0) (fun z => absurd z hw1) (fun p' w' sz' sg' h => ⟨h.1, h.2.1, fun _ => (h.2.2.2 hw1).trans r3', fun z => absurd rfl z⟩)
    | inr z =>
      obtain ⟨p3, e3⟩ := z
      rw [hps] at r3 hpar K
      obtain ⟨b1, b2, b3, b4⟩ := (show p1 = p3 ∧ w1 = -1 ∧ sz1 = sz + e3.1.length ∧ sg1 = apL sg sz e3.1 from r3)
      obtain ⟨f1, f2, f3, f4⟩ := hpar
      dsimp only at f1 f2 f3 f4
      subst b1
      exact K e3 (fun _ => ⟨b3, b4, by omega, by omega⟩) (fun p' w' sz' sg' h => by rw [b2] at h; exact h)
  · have hw1 := r4 hw
    subst hw1
    exact K (exNum 0) (fun z => absurd z hw) (fun p' w' sz' sg' h => ⟨h.1, h.2.1, fun z => absurd z hw, h.2.2.2⟩)
theorem c_readAtom {lv : Nat} (hk : Lok la) (hT : TK hi L) (hlv : lv ≤ 6) (hsum : ∀ l, lv = l + 1 → CtR G (d + 4) hl f dr t hi la L 39 [.ref la, .ref 1, .int (nI (6 - l))] (pSum (hi 2) L l)) :
    CtR G (d + 5) hl f dr t hi la L 41 [.ref la, .ref 1, .int (nI (6 - lv))] (pAtom (hi 2) L (pInn (hi 2) L lv)) := by
  intro p w sz sg Q hp hsz hszp hQ
  obtain ⟨hL, h2⟩ := lwB_T hk hT sz sg
  have hLm := hT.2.1
  have hb := hT.2.2
  have hs := tpSkip_le (b := hi 2) hp
  have hid := tpSkip_id (b := hi 2) hp
  have hb' : TpB (lwB hi la sz sg 2) L := by rw [h2]; exact hb
  obtain ⟨l1, -⟩ := hk.lw (tpS (lwB hi la sz sg) p w) hl f dr t
  refine Ct_of (ls := [_, _, _, _, _]) m_41.1.2.2.1 (Nat.le_of_ble_eq_true rfl) rfl ?_
  refine wq_aload_n q41_0 rfl ?_
  refine cV (As := []) q41_1 m_69 rfl rfl rfl ⟨by decide, rfl⟩ rfl (c_next hL hLm hp ?_)
  refine wq_istore_n (ls' := [_, _, _, _, _]) q41_4 rfl ?_
  refine wq_aload_n q41_5 rfl ?_
  refine wq_ldcS q41_6 ?_
  rw [h2]
  refine cV (As := [_]) q41_8 m_76 rfl rfl rfl ⟨by decide, rfl⟩ rfl (c_letterOf (j := 3) (by decide) hL hLm hb' hs.2 ?_)
  refine wq_istore (ls' := [_, _, _, _, _]) q41_11 rfl ?_
  refine wq_iload_n q41_13 rfl ?_
  rw [h2, hid]
  by_cases hw : w = -1
  · subst hw
    have hszp := hszp rfl
    rw [tat_here]
    generalize hq : tpSkip (hi 2) L p = q at hs hid
    generalize hc : tat (hi 2) L q = c
    have hpa : pAtom (hi 2) L (pInn (hi 2) L lv) p = (if isDg c = true then (if isDg (tat (hi 2) L (pDg (hi 2) L q).2.2) = true then pno (pDg (hi 2) L q).2.2 else pok (pDg (hi 2) L q).2.2 (exNum (pDg (hi 2) L q).1))
        else if ¬ liO 3 c = -1 then pok (q + 1) (exLet (liO 3 c).toNatClampNeg)
        else if c = 91 then (match pInn (hi 2) L lv with
          | none => pno q
          | some f => pB (f (q + 1)) (fun p' e => pEnd (hi 2) L 93 p' e))
        else pno q) := by
      unfold pAtom
      rw [hq, hc]
      rfl
    rw [hpa] at hQ
    refine cS' (As := [_]) q41_14 m_79 rfl rfl rfl (c_isDg ?_)
    refine wq_if_eq q41_17 (fun c17 => ?_) (fun c17 => ?_)
    · have hd : ¬ isDg c = true := p01 c17
      rw [if_neg hd] at hQ
      refine wq_iload q41_35 rfl ?_
      refine wq_iconst q41_37 ?_
      refine wq_icmp_eq q41_38 (fun c38 => ?_) (fun c38 => ?_)
      · rw [if_neg (fun z => z c38)] at hQ
        refine wq_iload_n q41_56 rfl ?_
        refine wq_bipush q41_57 ?_
        refine wq_icmp_eq q41_59 (fun c59 => ?_) (fun c59 => ?_)
        · rw [if_pos c59] at hQ
          have hlt : q < L := tat_lt (hc.trans c59) (by decide)
          refine wq_aload_n q41_69 rfl ?_
          refine wq_iload_n q41_70 rfl ?_
          refine cS' (As := [_, _]) q41_71 m_42 rfl rfl rfl (c_enters hL hLm hs.2 (fun hx => ?_) (fun hx => ?_))
          · have hl0 := lv_ne hlv hx
            subst hl0
            refine wq_if_eq q41_74 (fun c74 => ?_) (fun c74 => ?_)
            · rw [h2, hid, tpF_1]
              refine rV q41_91 ?_
              exact hQ _ _ _ _ (LR_no rfl hs.2 hsz)
            · exact absurd rfl c74
          · obtain ⟨l, rfl⟩ := lvl_lt hlv hx
            have hQ : ∀ p' w' sz' sg', LR L (pM (pB (pSum (hi 2) L l (q + 1)) (fun p' e => pEnd (hi 2) L 93 p' e)) (fun e => e.1)) (-1) sz sg p' w' sz' sg' → Q none (HP (tpS (lwB hi la sz' sg') p' w') hl f dr t) := hQ
            rw [pass_lt hlt]
            refine wq_if_eq q41_74 (fun c74 => ?_) (fun c74 => ?_)
            · exact absurd c74 (by decide)
            · refine wq_aload_n q41_77 rfl ?_
              refine wq_aload_n q41_78 rfl ?_
              refine wq_iload_n q41_79 rfl ?_
              refine wq_iconst q41_80 ?_
              refine wq_iadd q41_81 ?_
              rw [show nI (6 - (l + 1)) + 1 = nI (6 - l) by rw [nI_1]; congr 1; omega]
              have hpg := pSum_ok (b := hi 2) (L := L) l (q + 1) (by omega)
              refine cV (As := [_, _]) q41_82 m_39 rfl rfl (by first | exact l1 | rfl) ⟨by decide, rfl⟩ rfl (hsum l rfl (q + 1) (-1) sz sg _ (by omega) hsz (fun _ => by omega) (fun p1 w1 sz1 sg1 hr => ?_))
              obtain ⟨r1, r2, r3, -⟩ := hr
              have r3 := r3 rfl
              obtain ⟨hL1, h21⟩ := lwB_T hk hT sz1 sg1
              have hs1 := tpSkip_le (b := hi 2) r1
              refine wq_aload_n q41_85 rfl ?_
              refine wq_bipush q41_86 ?_
              refine cV (As := [_]) q41_88 m_72 rfl rfl rfl ⟨by decide, rfl⟩ rfl (c_expect hL1 hLm r1 (fun p2 w2 he => ?_))
              refine rV q41_91 ?_
              rw [h21] at he
              cases hps : pSum (hi 2) L l (q + 1) with
              | inl q1 =>
                rw [hps] at r3 hpg
                have hq1 : q1 ≤ L := hpg
                have r3' : w1 = nI q1 := r3
                subst r3'
                have hw1 : ¬ nI q1 = -1 := nI_nm1 (by omega)
                rw [here_w hw1, if_neg (by decide), tpF_w hw1] at he
                cases he
                exact hQ _ _ _ _ (LR_no (q := q1) (by rw [hps]; rfl) hs1.2 r2)
              | inr z =>
                obtain ⟨p3, e3⟩ := z
                rw [hps] at r3 hpg
                obtain ⟨a1, a2, a3, a4⟩ := (show p1 = p3 ∧ w1 = -1 ∧ sz1 = sz + e3.1.length ∧ sg1 = apL sg sz e3.1 from r3)
                subst a1 a2 a3 a4
                rw [tat_here] at he
                by_cases hc2 : tat (hi 2) L (tpSkip (hi 2) L p1) = 93
                · rw [if_pos hc2, pass_lt (tat_lt hc2 (by decide))] at he
                  cases he
                  exact hQ _ _ _ _ (LR_ok (p1 := tpSkip (hi 2) L p1 + 1) (out := e3.1) (by rw [hps]; show pM (pEnd (hi 2) L 93 p1 e3) _ = _; unfold pEnd; rw [if_pos hc2]; rfl) (tat_lt hc2 (by decide)) rfl r2 rfl)
                · rw [if_neg hc2, tpF_1] at he
                  cases he
                  exact hQ _ _ _ _ (LR_no (q := tpSkip (hi 2) L p1) (by rw [hps]; show pM (pEnd (hi 2) L 93 p1 e3) _ = _; unfold pEnd; rw [if_neg hc2]; rfl) hs1.2 r2)
        · rw [if_neg c59] at hQ
          refine wq_aload_n q41_62 rfl ?_
          refine cV (As := []) q41_63 m_74 rfl rfl rfl ⟨by decide, rfl⟩ rfl (c_fail hL hLm hs.2 ?_)
          refine wq_goto q41_66 ?_
          refine rV q41_91 ?_
          rw [h2, hid, tpF_1]
          exact hQ _ _ _ _ (LR_no rfl hs.2 hsz)
      · rw [if_pos c38] at hQ
        rcases liO_nm (j := 3) (x := c) (by decide) with z | ⟨k, k1, k2, k3⟩
        · exact absurd z c38
        · have hk6 : k < 6 := k1
          have hlt : q < L := tat_lt hc (fun z => by have := (cB_ok 3 (by decide) k hk6).1; rw [k3, z] at this; exact absurd this (by decide))
          rw [k2, nI_clamp (by omega)] at hQ
          rw [k2]
          refine wq_aload_n q41_41 rfl ?_
          refine cV (As := []) q41_42 m_70 rfl rfl rfl ⟨by decide, rfl⟩ rfl (c_pass hL hLm hs.2 ?_)
          rw [pass_lt hlt]
          refine wq_aload_n q41_45 rfl ?_
          refine wq_iconst q41_46 ?_
          refine wq_iload q41_47 rfl ?_
          refine wq_isub q41_49 ?_
          refine cV (As := [_]) q41_50 m_44 rfl rfl (by first | exact l1 | rfl) ⟨by decide, rfl⟩ rfl (c_put hk hsz (fun sz' sg' g1 g2 => ?_))
          refine wq_goto q41_53 ?_
          refine rV q41_91 ?_
          obtain ⟨g3, g4⟩ := g1 (by omega)
          exact hQ _ _ _ _ (LR_ok rfl (by omega) g3 g2 g4)
    · have hd : isDg c = true := p10 c17
      rw [if_pos hd] at hQ
      obtain ⟨k, r, h1, hk4, h3, h4, h5⟩ := pDg_ok (b := hi 2) (L := L) (q := q) (by rw [hc]; exact hd)
      rw [h1] at hQ
      refine wq_aload_n q41_20 rfl ?_
      refine wq_aload_n q41_21 rfl ?_
      refine wq_iconst q41_22 ?_
      refine wq_iconst q41_23 ?_
      refine wq_ldc q41_24 ?_
      refine cV (As := [_, _, _]) q41_26 m_78 rfl rfl rfl ⟨by decide, rfl⟩ rfl (c_number (D := 4) hL hLm (by decide) hs.2 (fun x hx => ?_))
      rw [h2, hid] at hx
      have hx' : x = (nI k, r, q + r) := hx.trans h1
      subst hx'
      rw [h2]
      have hne : (tpNe (hi 2) L (-1) 0 1000000 (nI k, r, q + r)).2.2 = if isDg (tat (hi 2) L (q + r)) = true then nI (q + r) else -1 := by
        unfold tpNe
        dsimp only
        rw [tat_here]
        by_cases hd2 : isDg (tat (hi 2) L (q + r)) = true
        · rw [if_pos (Or.inr hd2), if_pos hd2, tpF_1]
        · rw [if_neg (by rintro (z | z); omega; exact hd2 z), if_neg hd2, if_neg]
          rintro (z | z)
          · exact nI_pos (by omega) z
          · rw [show (1000000 : Int32) = nI 1000000 from rfl, nI_ltI (by omega) (by omega)] at z
            omega
      rw [hne]
      dsimp only at hQ ⊢
      refine cV (As := [_]) q41_29 m_44 rfl rfl (by first | exact l1 | rfl) ⟨by decide, rfl⟩ rfl (c_put hk hsz (fun sz' sg' g1 g2 => ?_))
      refine wq_goto q41_32 ?_
      refine rV q41_91 ?_
      obtain ⟨g3, g4⟩ := g1 (by omega)
      by_cases hd2 : isDg (tat (hi 2) L (q + r)) = true
      · rw [if_pos hd2] at hQ ⊢
        exact hQ _ _ _ _ (LR_no rfl h5 g2)
      · rw [if_neg hd2] at hQ ⊢
        exact hQ _ _ _ _ (LR_ok rfl h5 g3 g2 g4)
  · rw [here_w hw, liO_m1 (by decide)]
    refine cS' (As := [_]) q41_14 m_79 rfl rfl rfl (c_isDg ?_)
    refine wq_if_eq q41_17 (fun c17 => ?_) (fun c17 => ?_)
    · refine wq_iload q41_35 rfl ?_
      refine wq_iconst q41_37 ?_
      refine wq_icmp_eq q41_38 (fun c38 => ?_) (fun c38 => ?_)
      · refine wq_iload_n q41_56 rfl ?_
        refine wq_bipush q41_57 ?_
        refine wq_icmp_eq q41_59 (fun c59 => ?_) (fun c59 => ?_)
        · exact absurd c59 (by decide)
        · refine wq_aload_n q41_62 rfl ?_
          refine cV (As := []) q41_63 m_74 rfl rfl rfl ⟨by decide, rfl⟩ rfl (c_fail hL hLm hs.2 ?_)
          refine wq_goto q41_66 ?_
          refine rV q41_91 ?_
          rw [h2, hid, tpF_w hw]
          exact hQ _ _ _ _ (LR_w hw hs.2 hsz)
      · exact absurd rfl c38
    · exact absurd (p10 c17) (by decide)
theorem c_readTerm_loop {lv : Nat} {sub : Nat → PR Ex} {D sz0 : Nat} {sg0 : Nat → Int32} (hk : Lok la) (hT : TK hi L) (hlv : lv ≤ 6) (hpg : PGf L D sub) (hsub : CtR G d hl f dr t hi la L 41 [.ref la, .ref 1, .int (nI (6 - lv))] sub) (hd : 3 ≤ d) :
    ∀ (m k p : Nat) (w : Int32) (sz : Nat) (sg : Nat → Int32) (e : Ex) (x4 : Option Value), k + m = 240 → p ≤ L → sz ≤ 241 → (w = -1 → sz = sz0 + e.1.length ∧ sg = apL sg0 sz0 e.1 ∧ sz ≤ p ∧ L ≤ p + m) →
    (∀ p' w' sz' sg', LR L (pM (pLoop (hi 2) L isMul sub m p e) (fun e => e.1)) w sz0 sg0 p' w' sz' sg' → Q none (HP (tpS (lwB hi la sz' sg') p' w') hl f dr t)) →
    wq G (0, 0) (d + 1) 40 8 [some (.ref la), some (.ref 1), some (.int (nI (6 - lv))), some (.int (nI k)), x4] [] (0, 0) (HP (tpS (lwB hi la sz sg) p w) hl f dr t) Q := by
  have hLm := hT.2.1
  obtain ⟨d, rfl⟩ : ∃ d', d = d' + 3 := ⟨d - 3, by omega⟩
  intro m
  induction m with
  | zero =>
    intro k p w sz sg e x4 hm hp hsz hw hQ
    refine wq_iload_n q40_8 rfl ?_
    refine wq_sipush q40_9 ?_
    refine wq_icmp_ge q40_12 (fun c12 => ?_) (fun c12 => ?_)
    · refine rV q40_59 ?_
      by_cases h1 : w = -1
      · subst h1
        obtain ⟨a1, a2, a3, a4⟩ := hw rfl
        exact hQ _ _ _ _ (LR_ok rfl hp a1 hsz a2)
      · exact hQ _ _ _ _ (LR_w h1 hp hsz)
    · rw [show (240 : Int32) = nI 240 from rfl, nI_leI (by omega) (by omega)] at c12
      omega
  | succ m ih =>
    intro k p w sz sg e x4 hm hp hsz hw hQ
    obtain ⟨hL, h2⟩ := lwB_T hk hT sz sg
    have hs := tpSkip_le (b := hi 2) hp
    obtain ⟨l1, -⟩ := hk.lw (tpS (lwB hi la sz sg) p w) hl f dr t
    refine wq_iload_n q40_8 rfl ?_
    refine wq_sipush q40_9 ?_
    refine wq_icmp_ge q40_12 (fun c12 => ?_) (fun c12 => ?_)
    · rw [show (240 : Int32) = nI 240 from rfl, nI_leI (by omega) (by omega)] at c12
      omega
    · refine wq_aload_n q40_15 rfl ?_
      refine cV (As := []) q40_16 m_69 rfl rfl rfl ⟨by decide, rfl⟩ rfl (c_next hL hLm hp ?_)
      rw [h2]
      by_cases h1 : w = -1
      · subst h1
        obtain ⟨a1, a2, a3, a4⟩ := hw rfl
        rw [tat_here]
        generalize hq : tpSkip (hi 2) L p = q at hs
        generalize hc : tat (hi 2) L q = c
        have hpl : pLoop (hi 2) L isMul sub (m + 1) p e = if isMul c = true then pB (sub (q + 1)) (fun p' e' => pLoop (hi 2) L isMul sub m p' (exOp (0 - c) e e')) else pok q e := by
          rw [pLoop, hq, hc]
        rw [hpl] at hQ
        have more : isMul c = true → ∀ x4 : Option Value, wq G (0, 0) (d + 3 + 1) 40 36 [some (.ref la), some (.ref 1), some (.int (nI (6 - lv))), some (.int (nI k)), some (.int c)] [] (0, 0) (HP (tpS (lwB hi la sz sg) q (-1)) hl f dr t) Q := by
          intro ho x4
          rw [if_pos ho] at hQ
          have hlt : q < L := tat_lt hc (isMul_ok c ho).1
          have hpgq := hpg (q + 1) (by omega)
          refine wq_aload_n q40_36 rfl ?_
          refine cV (As := []) q40_37 m_70 rfl rfl rfl ⟨by decide, rfl⟩ rfl (c_pass hL hLm hs.2 ?_)
          rw [pass_lt hlt]
          refine wq_aload_n q40_40 rfl ?_
          refine wq_aload_n q40_41 rfl ?_
          refine wq_iload_n q40_42 rfl ?_
          refine cV (As := [_, _]) q40_43 m_41 rfl rfl (by first | exact l1 | rfl) ⟨by decide, rfl⟩ rfl (hsub (q + 1) (-1) sz sg _ (by omega) hsz (fun _ => by omega) (fun p1 w1 sz1 sg1 hr => ?_))
          obtain ⟨r1, r2, r3, -⟩ := hr
          have r3 := r3 rfl
          obtain ⟨l1, -⟩ := hk.lw (tpS (lwB hi la sz1 sg1) p1 w1) hl f dr t
          refine wq_aload_n q40_46 rfl ?_
          refine wq_iload q40_47 rfl ?_
          refine wq_ineg q40_49 ?_
          refine cV (As := [_]) q40_50 m_44 rfl rfl (by first | exact l1 | rfl) ⟨by decide, rfl⟩ rfl (c_put hk r2 (fun sz2 sg2 g1 g2 => ?_))
          refine wq_iinc (ls' := [_, _, _, _, _]) q40_53 rfl rfl ?_
          refine wq_goto q40_56 ?_
          rw [nI_1]
          cases hps : sub (q + 1) with
          | inl q1 =>
            rw [hps] at r3 hpgq hQ
            have hq1 : q1 ≤ L := hpgq
            have r3' : w1 = nI q1 := r3
            subst r3'
            have hw1 : ¬ nI q1 = -1 := nI_nm1 (by omega)
            exact ih (k + 1) p1 (nI q1) sz2 sg2 e _ (by omega) r1 g2 (fun z => absurd z hw1) (fun p' w' sz' sg' h => hQ _ _ _ _ ⟨h.1, h.2.1, fun _ => h.2.2.2 hw1, fun z => absurd rfl z⟩)
          | inr z =>
            obtain ⟨p3, e3⟩ := z
            rw [hps] at r3 hpgq hQ
            obtain ⟨b1, b2, b3, b4⟩ := (show p1 = p3 ∧ w1 = -1 ∧ sz1 = sz + e3.1.length ∧ sg1 = apL sg sz e3.1 from r3)
            obtain ⟨f1, f2, f3, f4⟩ := hpgq
            dsimp only at f1 f2 f3 f4
            subst b1 b2
            obtain ⟨g3, g4⟩ := g1 (by omega)
            have el : (exOp (0 - c) e e3).1.length = e.1.length + (e3.1.length + 1) := by simp [exOp]
            refine ih (k + 1) p1 (-1) sz2 sg2 (exOp (0 - c) e e3) _ (by omega) r1 g2 (fun _ => ⟨by rw [el]; omega, ?_, by omega, by omega⟩) hQ
            rw [g4, b4, b3, a2, a1, apL_app, apL_app]
            rfl
        have stop : isMul c = false → ∀ x4 : Option Value, wq G (0, 0) (d + 3 + 1) 40 35 [some (.ref la), some (.ref 1), some (.int (nI (6 - lv))), some (.int (nI k)), some (.int c)] [] (0, 0) (HP (tpS (lwB hi la sz sg) q (-1)) hl f dr t) Q := by
          intro ho x4
          rw [if_neg (by rw [ho]; decide)] at hQ
          refine rV q40_35 ?_
          exact hQ _ _ _ _ (LR_ok rfl hs.2 a1 hsz a2)
        refine wq_istore (ls' := [_, _, _, _, _]) q40_19 rfl ?_
        refine wq_iload q40_21 rfl ?_
        refine wq_bipush q40_23 ?_
        refine wq_icmp_eq q40_25 (fun c25 => ?_) (fun c25 => ?_)
        · exact more (by simp [isMul, c25]) x4
        · refine wq_iload q40_28 rfl ?_
          refine wq_bipush q40_30 ?_
          refine wq_icmp_eq q40_32 (fun c32 => ?_) (fun c32 => ?_)
          · exact more (by simp [isMul, c32]) x4
          · exact stop (by simp [isMul, c25, c32]) x4
      · rw [here_w h1]
        refine wq_istore (ls' := [_, _, _, _, _]) q40_19 rfl ?_
        refine wq_iload q40_21 rfl ?_
        refine wq_bipush q40_23 ?_
        refine wq_icmp_eq q40_25 (fun c25 => ?_) (fun c25 => ?_)
        · exact absurd c25 (by decide)
        · refine wq_iload q40_28 rfl ?_
          refine wq_bipush q40_30 ?_
          refine wq_icmp_eq q40_32 (fun c32 => ?_) (fun c32 => ?_)
          · exact absurd c32 (by decide)
          · refine rV q40_35 ?_
            exact hQ _ _ _ _ (LR_w h1 hs.2 hsz)
theorem c_readSum_loop {lv : Nat} {sub : Nat → PR Ex} {D sz0 : Nat} {sg0 : Nat → Int32} (hk : Lok la) (hT : TK hi L) (hlv : lv ≤ 6) (hpg : PGf L D sub) (hsub : CtR G d hl f dr t hi la L 40 [.ref la, .ref 1, .int (nI (6 - lv))] sub) (hd : 3 ≤ d) :
    ∀ (m k p : Nat) (w : Int32) (sz : Nat) (sg : Nat → Int32) (e : Ex) (x4 : Option Value), k + m = 240 → p ≤ L → sz ≤ 241 → (w = -1 → sz = sz0 + e.1.length ∧ sg = apL sg0 sz0 e.1 ∧ sz ≤ p ∧ L ≤ p + m) →
    (∀ p' w' sz' sg', LR L (pM (pLoop (hi 2) L isAdd sub m p e) (fun e => e.1)) w sz0 sg0 p' w' sz' sg' → Q none (HP (tpS (lwB hi la sz' sg') p' w') hl f dr t)) →
    wq G (0, 0) (d + 1) 39 8 [some (.ref la), some (.ref 1), some (.int (nI (6 - lv))), some (.int (nI k)), x4] [] (0, 0) (HP (tpS (lwB hi la sz sg) p w) hl f dr t) Q := by
  have hLm := hT.2.1
  obtain ⟨d, rfl⟩ : ∃ d', d = d' + 3 := ⟨d - 3, by omega⟩
  intro m
  induction m with
  | zero =>
    intro k p w sz sg e x4 hm hp hsz hw hQ
    refine wq_iload_n q39_8 rfl ?_
    refine wq_sipush q39_9 ?_
    refine wq_icmp_ge q39_12 (fun c12 => ?_) (fun c12 => ?_)
    · refine rV q39_59 ?_
      by_cases h1 : w = -1
      · subst h1
        obtain ⟨a1, a2, a3, a4⟩ := hw rfl
        exact hQ _ _ _ _ (LR_ok rfl hp a1 hsz a2)
      · exact hQ _ _ _ _ (LR_w h1 hp hsz)
    · rw [show (240 : Int32) = nI 240 from rfl, nI_leI (by omega) (by omega)] at c12
      omega
  | succ m ih =>
    intro k p w sz sg e x4 hm hp hsz hw hQ
    obtain ⟨hL, h2⟩ := lwB_T hk hT sz sg
    have hs := tpSkip_le (b := hi 2) hp
    obtain ⟨l1, -⟩ := hk.lw (tpS (lwB hi la sz sg) p w) hl f dr t
    refine wq_iload_n q39_8 rfl ?_
    refine wq_sipush q39_9 ?_
    refine wq_icmp_ge q39_12 (fun c12 => ?_) (fun c12 => ?_)
    · rw [show (240 : Int32) = nI 240 from rfl, nI_leI (by omega) (by omega)] at c12
      omega
    · refine wq_aload_n q39_15 rfl ?_
      refine cV (As := []) q39_16 m_69 rfl rfl rfl ⟨by decide, rfl⟩ rfl (c_next hL hLm hp ?_)
      rw [h2]
      by_cases h1 : w = -1
      · subst h1
        obtain ⟨a1, a2, a3, a4⟩ := hw rfl
        rw [tat_here]
        generalize hq : tpSkip (hi 2) L p = q at hs
        generalize hc : tat (hi 2) L q = c
        have hpl : pLoop (hi 2) L isAdd sub (m + 1) p e = if isAdd c = true then pB (sub (q + 1)) (fun p' e' => pLoop (hi 2) L isAdd sub m p' (exOp (0 - c) e e')) else pok q e := by
          rw [pLoop, hq, hc]
        rw [hpl] at hQ
        have more : isAdd c = true → ∀ x4 : Option Value, wq G (0, 0) (d + 3 + 1) 39 36 [some (.ref la), some (.ref 1), some (.int (nI (6 - lv))), some (.int (nI k)), some (.int c)] [] (0, 0) (HP (tpS (lwB hi la sz sg) q (-1)) hl f dr t) Q := by
          intro ho x4
          rw [if_pos ho] at hQ
          have hlt : q < L := tat_lt hc (isAdd_ok c ho).1
          have hpgq := hpg (q + 1) (by omega)
          refine wq_aload_n q39_36 rfl ?_
          refine cV (As := []) q39_37 m_70 rfl rfl rfl ⟨by decide, rfl⟩ rfl (c_pass hL hLm hs.2 ?_)
          rw [pass_lt hlt]
          refine wq_aload_n q39_40 rfl ?_
          refine wq_aload_n q39_41 rfl ?_
          refine wq_iload_n q39_42 rfl ?_
          refine cV (As := [_, _]) q39_43 m_40 rfl rfl (by first | exact l1 | rfl) ⟨by decide, rfl⟩ rfl (hsub (q + 1) (-1) sz sg _ (by omega) hsz (fun _ => by omega) (fun p1 w1 sz1 sg1 hr => ?_))
          obtain ⟨r1, r2, r3, -⟩ := hr
          have r3 := r3 rfl
          obtain ⟨l1, -⟩ := hk.lw (tpS (lwB hi la sz1 sg1) p1 w1) hl f dr t
          refine wq_aload_n q39_46 rfl ?_
          refine wq_iload q39_47 rfl ?_
          refine wq_ineg q39_49 ?_
          refine cV (As := [_]) q39_50 m_44 rfl rfl (by first | exact l1 | rfl) ⟨by decide, rfl⟩ rfl (c_put hk r2 (fun sz2 sg2 g1 g2 => ?_))
          refine wq_iinc (ls' := [_, _, _, _, _]) q39_53 rfl rfl ?_
          refine wq_goto q39_56 ?_
          rw [nI_1]
          cases hps : sub (q + 1) with
          | inl q1 =>
            rw [hps] at r3 hpgq hQ
            have hq1 : q1 ≤ L := hpgq
            have r3' : w1 = nI q1 := r3
            subst r3'
            have hw1 : ¬ nI q1 = -1 := nI_nm1 (by omega)
            exact ih (k + 1) p1 (nI q1) sz2 sg2 e _ (by omega) r1 g2 (fun z => absurd z hw1) (fun p' w' sz' sg' h => hQ _ _ _ _ ⟨h.1, h.2.1, fun _ => h.2.2.2 hw1, fun z => absurd rfl z⟩)
          | inr z =>
            obtain ⟨p3, e3⟩ := z
            rw [hps] at r3 hpgq hQ
            obtain ⟨b1, b2, b3, b4⟩ := (show p1 = p3 ∧ w1 = -1 ∧ sz1 = sz + e3.1.length ∧ sg1 = apL sg sz e3.1 from r3)
            obtain ⟨f1, f2, f3, f4⟩ := hpgq
            dsimp only at f1 f2 f3 f4
            subst b1 b2
            obtain ⟨g3, g4⟩ := g1 (by omega)
            have el : (exOp (0 - c) e e3).1.length = e.1.length + (e3.1.length + 1) := by simp [exOp]
            refine ih (k + 1) p1 (-1) sz2 sg2 (exOp (0 - c) e e3) _ (by omega) r1 g2 (fun _ => ⟨by rw [el]; omega, ?_, by omega, by omega⟩) hQ
            rw [g4, b4, b3, a2, a1, apL_app, apL_app]
            rfl
        have stop : isAdd c = false → ∀ x4 : Option Value, wq G (0, 0) (d + 3 + 1) 39 35 [some (.ref la), some (.ref 1), some (.int (nI (6 - lv))), some (.int (nI k)), some (.int c)] [] (0, 0) (HP (tpS (lwB hi la sz sg) q (-1)) hl f dr t) Q := by
          intro ho x4
          rw [if_neg (by rw [ho]; decide)] at hQ
          refine rV q39_35 ?_
          exact hQ _ _ _ _ (LR_ok rfl hs.2 a1 hsz a2)
        refine wq_istore (ls' := [_, _, _, _, _]) q39_19 rfl ?_
        refine wq_iload q39_21 rfl ?_
        refine wq_bipush q39_23 ?_
        refine wq_icmp_eq q39_25 (fun c25 => ?_) (fun c25 => ?_)
        · exact more (by simp [isAdd, c25]) x4
        · refine wq_iload q39_28 rfl ?_
          refine wq_bipush q39_30 ?_
          refine wq_icmp_eq q39_32 (fun c32 => ?_) (fun c32 => ?_)
          · exact more (by simp [isAdd, c32]) x4
          · exact stop (by simp [isAdd, c25, c32]) x4
      · rw [here_w h1]
        refine wq_istore (ls' := [_, _, _, _, _]) q39_19 rfl ?_
        refine wq_iload q39_21 rfl ?_
        refine wq_bipush q39_23 ?_
        refine wq_icmp_eq q39_25 (fun c25 => ?_) (fun c25 => ?_)
        · exact absurd c25 (by decide)
        · refine wq_iload q39_28 rfl ?_
          refine wq_bipush q39_30 ?_
          refine wq_icmp_eq q39_32 (fun c32 => ?_) (fun c32 => ?_)
          · exact absurd c32 (by decide)
          · refine rV q39_35 ?_
            exact hQ _ _ _ _ (LR_w h1 hs.2 hsz)
end READLAW
