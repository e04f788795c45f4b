/-! THE REFERENCE: when a code is worn; counts -/
/-- within a day: the reference stops at what is worn -/
def wrN (kf : Nat → Nat) (sk : Nat → Bool) (W : Nat) : Nat → Nat → Nat → Nat
  | 0, _, L => L
  | m + 1, e, L => wrN kf sk W m (e + 1) (if sk e = true ∨ W ≤ L then L else L + kf e)
def smN (kf : Nat → Nat) (sk : Nat → Bool) : Nat → Nat → Nat → Nat
  | 0, _, L => L
  | m + 1, e, L => smN kf sk m (e + 1) (if sk e = true then L else L + kf e)
theorem smN_ge {kf : Nat → Nat} {sk : Nat → Bool} : ∀ (m e L : Nat), L ≤ smN kf sk m e L := by
  intro m
  induction m with
  | zero => intro e L; exact Nat.le_refl _
  | succ m ih =>
    intro e L
    rw [smN]
    have := ih (e + 1) (if sk e = true then L else L + kf e)
    split at this
    · rw [if_pos (by assumption)]; exact this
    · rw [if_neg (by assumption)]; omega
theorem wrN_worn {kf : Nat → Nat} {sk : Nat → Bool} {W : Nat} : ∀ (m e L : Nat), W ≤ L → wrN kf sk W m e L = L := by
  intro m
  induction m with
  | zero => intro e L _; rfl
  | succ m ih =>
    intro e L h
    rw [wrN, if_pos (Or.inr h)]
    exact ih (e + 1) L h
/-- both are worn, or both are the same -/
theorem wr_sm {kf : Nat → Nat} {sk : Nat → Bool} {W : Nat} : ∀ (m e L : Nat), (W ≤ wrN kf sk W m e L ∧ W ≤ smN kf sk m e L) ∨ wrN kf sk W m e L = smN kf sk m e L := by
  intro m
  induction m with
  | zero => intro e L; exact Or.inr rfl
  | succ m ih =>
    intro e L
    by_cases hW : W ≤ L
    · refine Or.inl ⟨?_, Nat.le_trans hW (smN_ge _ _ _)⟩
      rw [wrN_worn _ _ _ hW]
      exact hW
    · rw [wrN, smN]
      by_cases hs : sk e = true
      · rw [if_pos (Or.inl hs), if_pos hs]
        exact ih (e + 1) L
      · rw [if_neg (fun z => z.elim hs hW), if_neg hs]
        exact ih (e + 1) _
theorem wrN_le {kf : Nat → Nat} {sk : Nat → Bool} {W N : Nat} (hk : ∀ e, e < N → kf e ≤ 9) : ∀ (m e L : Nat), e + m ≤ N → wrN kf sk W m e L ≤ L + 9 * m := by
  intro m
  induction m with
  | zero => intro e L _; exact Nat.le_refl _
  | succ m ih =>
    intro e L h
    rw [wrN]
    have h1 := ih (e + 1) (if sk e = true ∨ W ≤ L then L else L + kf e) (by omega)
    have h2 := hk e (by omega)
    refine Nat.le_trans h1 ?_
    split <;> omega
theorem smN_add {kf : Nat → Nat} {sk : Nat → Bool} : ∀ (m e L a : Nat), smN kf sk m e (L + a) = smN kf sk m e L + a := by
  intro m
  induction m with
  | zero => intro e L a; rfl
  | succ m ih =>
    intro e L a
    rw [smN, smN]
    by_cases hs : sk e = true
    · rw [if_pos hs, if_pos hs]
      exact ih (e + 1) L a
    · rw [if_neg hs, if_neg hs, show L + a + kf e = L + kf e + a by omega]
      exact ih (e + 1) _ a
/-- the class's sum of a day -/
theorem evS_sm {lv : Int32} {kn : Nat → Int32} {kf : Nat → Nat} {sk : Nat → Bool} {N : Nat} (hk : ∀ e, e < N → kn (e * 2) = nI (kf e)) (hs : ∀ e, e < N → (sk e = true ↔ lv = nI e)) : ∀ (m e L : Nat), e + m ≤ N → evS lv kn m e (nI L) = nI (smN kf sk m e L) := by
  intro m
  induction m with
  | zero => intro e L _; rfl
  | succ m ih =>
    intro e L h
    rw [evS, smN]
    by_cases hse : sk e = true
    · rw [if_pos ((hs e (by omega)).mp hse), if_pos hse, Int32.add_zero]
      exact ih (e + 1) L (by omega)
    · rw [if_neg (fun z => hse ((hs e (by omega)).mpr z)), if_neg hse, hk e (by omega), nI_add]
      exact ih (e + 1) _ (by omega)
theorem kf_le {kf : Nat → Nat} {sk : Nat → Bool} {N : Nat} (hk : ∀ e, e < N → kf e ≤ 9) : ∀ (m e L : Nat), e + m ≤ N → smN kf sk m e L ≤ L + 9 * m := by
  intro m
  induction m with
  | zero => intro e L _; exact Nat.le_refl _
  | succ m ih =>
    intro e L h
    rw [smN]
    have h1 := ih (e + 1) (if sk e = true then L else L + kf e) (by omega)
    have h2 := hk e (by omega)
    refine Nat.le_trans h1 ?_
    split <;> omega
section REFWEARS
variable {G : ph_G} {d f dr t n r ev wi sz lg a : Nat} {hi hi' : Nat → Nat → Int32} {hl : Nat → Nat → Int64} {Q : Option Value → ph_H → Prop} {row : Nat → Int32} {lw : Option Nat}
theorem c_rwears_in {out : Int32} {W k : Nat} {kf : Nat → Nat} {sk : Nat → Bool} (hev : ev ≤ 6) (h27 : hi 58 27 = nI ev) (hW : hi 63 2 = nI W) (hW99 : W ≤ 99) (hk : ∀ e, e < ev → hi 67 (e * 2) = nI (kf e) ∧ kf e ≤ 9) (hs : ∀ e, e < ev → (sk e = true ↔ nI e = out)) :
    ∀ (m e L : Nat), e + m = ev → L ≤ 100000 → (∀ x4, wq G (0, 0) (d + 1) 277 106 [some (.ref 58), some (.int (nI (wrN kf sk W m e L))), some (.int out), some (.int (nI k)), x4] [] (0, 0) (HP hi hl f dr t) Q) →
    wq G (0, 0) (d + 1) 277 59 [some (.ref 58), some (.int (nI L)), some (.int out), some (.int (nI k)), some (.int (nI e))] [] (0, 0) (HP hi hl f dr t) Q := by
  have ec : hI (HP hi hl f dr t) 58 27 = nI ev := h27
  have eW : hI (HP hi hl f dr t) 63 2 = nI W := hW
  intro m
  induction m with
  | zero =>
    intro e L hm hL K
    obtain rfl : e = ev := by omega
    refine wq_iload q277_59 rfl ?_
    refine wq_aload_n q277_61 rfl ?_
    refine wq_getI q277_62 rfl rfl ?_
    refine wq_icmp_ge q277_65 (fun c65 => ?_) (fun c65 => ?_)
    · exact K _
    · rw [ec] at c65
      exact absurd (nI_le (Nat.le_refl _) (by omega)) c65
  | succ m ih =>
    intro e L hm hL K
    rw [wrN] at K
    obtain ⟨k1, k2⟩ := hk e (by omega)
    have ek : hI (HP hi hl f dr t) 67 (e * 2) = nI (kf e) := k1
    have skip : (sk e = true ∨ W ≤ L) → wq G (0, 0) (d + 1) 277 85 [some (.ref 58), some (.int (nI L)), some (.int out), some (.int (nI k)), some (.int (nI e))] [.int (nI L)] (0, 0) (HP hi hl f dr t) Q := by
      intro hx
      rw [if_pos hx] at K
      refine wq_iconst q277_85 ?_
      refine wq_goto q277_86 ?_
      refine wq_iadd q277_98 ?_
      refine wq_istore_n (ls' := [_, _, _, _, _]) q277_99 rfl ?_
      refine wq_iinc (ls' := [_, _, _, _, _]) q277_100 rfl rfl ?_
      refine wq_goto q277_103 ?_
      rw [nI_1, Int32.add_zero]
      exact ih (e + 1) L (by omega) hL K
    refine wq_iload q277_59 rfl ?_
    refine wq_aload_n q277_61 rfl ?_
    refine wq_getI q277_62 rfl rfl ?_
    refine wq_icmp_ge q277_65 (fun c65 => ?_) (fun c65 => ?_)
    · rw [ec, nI_leI (by omega) (by omega)] at c65
      omega
    · refine wq_iload_n q277_68 rfl ?_
      refine wq_iload q277_69 rfl ?_
      refine wq_iload_n q277_71 rfl ?_
      refine wq_icmp_eq q277_72 (fun c72 => ?_) (fun c72 => ?_)
      · exact skip (Or.inl ((hs e (by omega)).mpr c72))
      · refine wq_iload_n q277_75 rfl ?_
        refine wq_aload_n q277_76 rfl ?_
        refine wq_getR q277_77 rfl rfl rfl ?_
        refine wq_iconst q277_80 ?_
        refine aI q277_81 rfl ((show (2 : Int32) = nI 2 from rfl)) (by decide) (by first | decide | omega) ?_
        rw [eW]
        refine wq_icmp_lt q277_82 (fun c82 => ?_) (fun c82 => ?_)
        · rw [nI_ltI (by omega) (by omega)] at c82
          rw [if_neg (show ¬ (sk e = true ∨ W ≤ L) from fun z => z.elim (fun q => c72 ((hs e (by omega)).mp q)) (by omega))] at K
          refine wq_aload_n q277_89 rfl ?_
          refine wq_getR q277_90 rfl rfl rfl ?_
          refine wq_iconst q277_93 ?_
          refine wq_iload q277_94 rfl ?_
          refine wq_imul q277_96 ?_
          refine aI q277_97 rfl (iv0 e) (by show e * 2 < 12; omega) (by first | decide | omega) ?_
          rw [ek]
          refine wq_iadd q277_98 ?_
          refine wq_istore_n (ls' := [_, _, _, _, _]) q277_99 rfl ?_
          refine wq_iinc (ls' := [_, _, _, _, _]) q277_100 rfl rfl ?_
          refine wq_goto q277_103 ?_
          rw [nI_1, nI_add]
          exact ih (e + 1) (L + kf e) (by omega) (by omega) K
        · rw [nI_ltI (by omega) (by omega)] at c82
          exact skip (Or.inr (by omega))
theorem c_rwears_days {out : Int32} {W each : Nat} {kf : Nat → Nat} {sk : Nat → Bool} (hev : ev ≤ 6) (h27 : hi 58 27 = nI ev) (hW : hi 63 2 = nI W) (hW99 : W ≤ 99) (hk : ∀ e, e < ev → hi 67 (e * 2) = nI (kf e) ∧ kf e ≤ 9) (hs : ∀ e, e < ev → (sk e = true ↔ nI e = out)) (heach : each = smN kf sk ev 0 0) :
    ∀ (m k L Lc : Nat) (x4 : Option Value), k + m = 100 → L ≤ 1000 + 60 * k → Lc ≤ 1000 + 60 * k → (L = Lc ∨ (W ≤ L ∧ W ≤ Lc)) → Q (some (.int (weL (nI W) (nI each) m k (nI Lc)))) (HP hi hl f dr t) →
    wq G (0, 0) (d + 1) 277 38 [some (.ref 58), some (.int (nI L)), some (.int out), some (.int (nI k)), x4] [] (0, 0) (HP hi hl f dr t) Q := by
  have eW : hI (HP hi hl f dr t) 63 2 = nI W := hW
  have hkf : ∀ e, e < ev → kf e ≤ 9 := fun e he => (hk e he).2
  have he54 : each ≤ 54 := by
    have := kf_le (sk := sk) hkf ev 0 0 (by omega)
    omega
  intro m
  induction m with
  | zero =>
    intro k L Lc x4 hm hL hLc hLL hQ
    obtain rfl : k = 100 := by omega
    refine wq_iload_n q277_38 rfl ?_
    refine wq_bipush q277_39 ?_
    refine wq_icmp_gt q277_41 (fun c41 => ?_) (fun c41 => ?_)
    · refine wq_iconst q277_112 ?_
      refine rI q277_113 rfl ?_
      exact hQ
    · exact absurd (by decide) c41
  | succ m ih =>
    intro k L Lc x4 hm hL hLc hLL hQ
    rw [weL] at hQ
    refine wq_iload_n q277_38 rfl ?_
    refine wq_bipush q277_39 ?_
    refine wq_icmp_gt q277_41 (fun c41 => ?_) (fun c41 => ?_)
    · rw [show (99 : Int32) = nI 99 from rfl, nI_ltI (by omega) (by omega)] at c41
      omega
    · refine wq_iload_n q277_44 rfl ?_
      refine wq_aload_n q277_45 rfl ?_
      refine wq_getR q277_46 rfl rfl rfl ?_
      refine wq_iconst q277_49 ?_
      refine aI q277_50 rfl ((show (2 : Int32) = nI 2 from rfl)) (by decide) (by first | decide | omega) ?_
      rw [eW]
      refine wq_icmp_lt q277_51 (fun c51 => ?_) (fun c51 => ?_)
      · rw [nI_ltI (by omega) (by omega)] at c51
        have hLe : L = Lc := by omega
        subst hLe
        rw [if_neg (show ¬ nI W ≤ nI L by rw [nI_leI (by omega) (by omega)]; omega), nI_add] at hQ
        refine wq_iconst q277_56 ?_
        refine wq_istore (ls' := [_, _, _, _, _]) q277_57 rfl ?_
        refine c_rwears_in hev h27 hW hW99 hk hs ev 0 L (by omega) (by omega) (fun x4 => ?_)
        have h1 := wr_sm (kf := kf) (sk := sk) (W := W) ev 0 L
        have h2 := wrN_le (sk := sk) (W := W) hkf ev 0 L (by omega)
        have h3 : smN kf sk ev 0 L = L + each := by
          have := smN_add (kf := kf) (sk := sk) ev 0 0 L
          rw [Nat.zero_add] at this
          rw [this, heach]
          omega
        refine wq_iinc (ls' := [_, _, _, _, _]) q277_106 rfl rfl ?_
        refine wq_goto q277_109 ?_
        rw [nI_1]
        exact ih (k + 1) _ (L + each) _ (by omega) (by omega) (by omega) (by omega) hQ
      · rw [nI_ltI (by omega) (by omega)] at c51
        rw [if_pos (show nI W ≤ nI Lc by rw [nI_leI (by omega) (by omega)]; omega)] at hQ
        refine wq_iload_n q277_54 rfl ?_
        refine rI q277_55 rfl ?_
        exact hQ
theorem c_rwears {L0 : Nat} (hF : RF hi f lw sz n ev wi) (hw : RW n row (hi 71)) (hL : row 31 = nI L0) (hL0 : L0 ≤ 1000) (hQ : Q (some (.int (weL (hi (f + 1) 2) (evS (lvO hi f (sOf row wi)) (hi (f + 3)) ev 0 0) 100 0 (row 31)))) (HP (up2 hi 58 0 0) hl f dr t)) : Ct G (0, 0) (d + 2) 277 [.ref 58] (HP hi hl f dr t) Q := by
  obtain ⟨hf, ⟨hn, hn1, hev, hwi, hc, hc4, hc0⟩, ⟨g1, g2, g3, g4, g5⟩, ⟨b1, b2, b3⟩, hlw⟩ := hF
  obtain ⟨s1, s2, s3⟩ := hw.s hn hwi
  have e26 : hI (HP (up2 hi 58 0 0) hl f dr t) 58 26 = nI n := g1
  have e30 : hI (HP (up2 hi 58 0 0) hl f dr t) 71 30 = nI L0 := hw.2.2.2.2.2.2.1.trans hL
  obtain ⟨W, hW99, eW⟩ : ∃ W, W ≤ 99 ∧ hi (f + 1) 2 = nI W := nI_of2 (M := 99) (n := 99) rfl (fun z => by
    have h := (b1 2 (by decide)).1
    rw [Int32.le_iff_toInt_le, show (fLo 0 2).toInt = 1 by decide] at h
    rw [Int32.lt_iff_toInt_lt, show (0 : Int32).toInt = 0 from rfl] at z
    omega) (b1 2 (by decide)).2
  have hkn : ∀ e, e < ev → ∃ k, k ≤ 9 ∧ hi (f + 3) (e * 2) = nI k := fun e he => nI_of2 (M := 9) (n := 9) rfl (fun z => by
    have h : fLo 2 0 ≤ hi (f + 3) (e * 2) := (b3 e 0 he (by decide)).1
    rw [Int32.le_iff_toInt_le, show (fLo 2 0).toInt = 1 by decide] at h
    rw [Int32.lt_iff_toInt_lt, show (0 : Int32).toInt = 0 from rfl] at z
    omega) (b3 e 0 he (by decide)).2
  have hkf : ∀ e, e < ev → hi (f + 3) (e * 2) = nI (hi (f + 3) (e * 2)).toNatClampNeg ∧ (hi (f + 3) (e * 2)).toNatClampNeg ≤ 9 := fun e he => by
    obtain ⟨k, k1, k2⟩ := hkn e he
    rw [k2, nI_clamp (by omega)]
    exact ⟨rfl, k1⟩
  have esm := evS_sm (lv := lvO hi f (sOf row wi)) (kn := hi (f + 3)) (kf := fun e => (hi (f + 3) (e * 2)).toNatClampNeg) (sk := fun e => decide (lvO hi f (sOf row wi) = nI e)) (N := ev) (fun e he => (hkf e he).1) (fun e _ => by simp) ev 0 0 (by omega)
  rw [show nI 0 = 0 from rfl] at esm
  rw [esm, eW, hL] at hQ
  have e65 : up2 hi 58 0 0 65 (sOf row wi * 5 + 3) = hi (f + 2) (sOf row wi * 5 + 3) := g4 _ (by omega)
  refine Ct_of (ls := [_, _, _, _, _]) m_277.1.2.2.1 (Nat.le_of_ble_eq_true rfl) rfl ?_
  refine wq_aload_n q277_0 rfl ?_
  refine wq_iconst q277_1 ?_
  refine wq_putI q277_2 rfl rfl rfl rfl ?_
  rw [hpS]
  refine wq_aload_n q277_5 rfl ?_
  refine wq_getI q277_6 rfl rfl ?_
  refine wq_if_ne q277_9 (fun c9 => ?_) (fun c9 => ?_)
  · refine wq_aload_n q277_14 rfl ?_
    refine wq_getR q277_15 rfl rfl rfl ?_
    refine wq_bipush q277_18 ?_
    refine aI q277_20 rfl ((show (30 : Int32) = nI 30 from rfl)) (by decide) (by first | decide | omega) ?_
    rw [e30]
    refine wq_istore_n (ls' := [_, _, _, _, _]) q277_21 rfl ?_
    refine wq_aload_n q277_22 rfl ?_
    refine wq_aload_n q277_23 rfl ?_
    refine wq_aload_n q277_24 rfl ?_
    refine wq_getR q277_25 rfl rfl rfl ?_
    refine cV (As := [_]) q277_28 m_213 rfl rfl rfl ⟨by decide, rfl⟩ rfl (c_rteller (Or.inl rfl) hn g1 ((g3 0 (by decide)).trans hc0) hw hwi ?_)
    rw [s2]
    refine wq_iconst q277_31 ?_
    refine cV (As := [_, _]) q277_32 m_211 rfl rfl rfl ⟨by decide, rfl⟩ rfl (c_toldH (w := 3) (by omega) (by omega) ?_)
    rw [e65]
    refine wq_istore_n (ls' := [_, _, _, _, _]) q277_35 rfl ?_
    refine wq_iconst q277_36 ?_
    refine wq_istore_n (ls' := [_, _, _, _, _]) q277_37 rfl ?_
    refine c_rwears_days (hi := up2 hi 58 0 0) (W := W) (kf := fun e => (hi (f + 3) (e * 2)).toNatClampNeg) (sk := fun e => decide (lvO hi f (sOf row wi) = nI e)) hev g2 ((g3 2 (by decide)).trans eW) hW99 (fun e he => ⟨(g5 (e * 2) (by omega)).trans (hkf e he).1, (hkf e he).2⟩) (fun e he => ?_) rfl 100 0 L0 L0 _ (by omega) (by omega) (by omega) (Or.inl rfl) hQ
    rw [decide_eq_true_eq, lv_eq (n := n) hc4 hev he]
    exact eq_comm
  · rw [e26] at c9
    exact absurd c9 (nI_ne0 (by omega) (by omega))
/-- counts -/
def crV (hi : Nat → Nat → Int32) (te su : Int32) (w : Int32) : Int32 :=
  if w = 0 then hi 58 26 else if w = 1 then hi 58 27 else if w = 2 then hi 58 7 else if w = 3 then hi 58 30 else if w = 4 then hi 58 6 else if w = 5 then hi 58 34 else if w = 6 then hi 71 32
  else if w = 7 then te else if w = 8 then hi 71 28 else if w = 9 then hi 71 29 else if w = 10 then hi 71 30 else if w = 11 then su
  else if w = 12 then hi 58 35 else if w = 13 then hi 58 45 else if w = 14 then hi 71 33 else if w = 15 then hi 58 38 else -1000000
theorem c_rsum_loop2 {x1 : Int32} (hn : n ≤ 7) (h26 : hi 58 26 = nI n) : ∀ (m p : Nat) (x : Int32), p + m = n → Q (some (.int (suR (fun i => hi 71 (4 * i + 1)) m p x))) (HP hi hl f dr t) →
    wq G (0, 0) (d + 2) 291 170 [some (.ref 58), some (.int x1), some (.int x), some (.int (nI p))] [] (0, 0) (HP hi hl f dr t) Q := by
  have ec : hI (HP hi hl f dr t) 58 26 = nI n := h26
  intro m
  induction m with
  | zero =>
    intro p x hm hQ
    obtain rfl : p = n := by omega
    refine wq_iload_n q291_170 rfl ?_
    refine wq_aload_n q291_171 rfl ?_
    refine wq_getI q291_172 rfl rfl ?_
    refine wq_icmp_ge q291_175 (fun c175 => ?_) (fun c175 => ?_)
    · refine wq_iload_n q291_197 rfl ?_
      refine rI q291_198 rfl ?_
      exact hQ
    · rw [ec] at c175
      exact absurd (nI_le (Nat.le_refl _) (by omega)) c175
  | succ m ih =>
    intro p x hm hQ
    rw [suR] at hQ
    refine wq_iload_n q291_170 rfl ?_
    refine wq_aload_n q291_171 rfl ?_
    refine wq_getI q291_172 rfl rfl ?_
    refine wq_icmp_ge q291_175 (fun c175 => ?_) (fun c175 => ?_)
    · rw [ec, nI_leI (by omega) (by omega)] at c175
      omega
    · refine wq_iload_n q291_178 rfl ?_
      refine wq_aload_n q291_179 rfl ?_
      refine wq_getR q291_180 rfl rfl rfl ?_
      refine wq_iconst q291_183 ?_
      refine wq_iload_n q291_184 rfl ?_
      refine wq_imul q291_185 ?_
      refine wq_iconst q291_186 ?_
      refine wq_iadd q291_187 ?_
      refine aI q291_188 rfl (ix1 p) (by show 4 * p + 1 < 214; omega) (by first | decide | omega) ?_
      refine wq_iadd q291_189 ?_
      refine wq_istore_n (ls' := [_, _, _, _]) q291_190 rfl ?_
      refine wq_iinc (ls' := [_, _, _, _]) q291_191 rfl rfl ?_
      refine wq_goto q291_194 ?_
      rw [nI_1]
      exact ih (p + 1) _ (by omega) hQ
theorem c_rcount {w : Int32} {te : Int32} (hn : n ≤ 7) (h26 : hi 58 26 = nI n) (hte0 : n = 0 → te = -1) (hte1 : 0 < n → RW n row (hi 71) ∧ wi < n ∧ hi 63 0 = nI wi ∧ te = row wi) (hQ : Q (some (.int (crV hi te (suR (fun i => hi 71 (4 * i + 1)) n 0 0) w))) (HP (up2 hi 58 0 0) hl f dr t)) : Ct G (0, 0) (d + 2) 291 [.ref 58, .int w] (HP hi hl f dr t) Q := by
  have e26 : hI (HP (up2 hi 58 0 0) hl f dr t) 58 26 = nI n := h26
  unfold crV at hQ
  refine Ct_of (ls := [_, _, _, _]) m_291.1.2.2.1 (Nat.le_of_ble_eq_true rfl) rfl ?_
  refine wq_aload_n q291_0 rfl ?_
  refine wq_iconst q291_1 ?_
  refine wq_putI q291_2 rfl rfl rfl rfl ?_
  rw [hpS]
  refine wq_iload_n q291_5 rfl ?_
  refine wq_switch q291_6 [84, 89, 94, 99, 104, 109, 114, 122, 142, 150, 158, 166, 199, 204, 209, 217] (by decide) (fun c6 => ?_) (fun i t ht c6 => ?_)
  · have hk : ∀ v : Int32, 0 ≤ v.toInt → v.toInt ≤ 15 → ¬ w = v := fun v h1 h2 z => by subst z; omega
    rw [if_neg (hk 0 (by decide) (by decide)), if_neg (hk 1 (by decide) (by decide)), if_neg (hk 2 (by decide) (by decide)), if_neg (hk 3 (by decide) (by decide)), if_neg (hk 4 (by decide) (by decide)), if_neg (hk 5 (by decide) (by decide)), if_neg (hk 6 (by decide) (by decide)), if_neg (hk 7 (by decide) (by decide)), if_neg (hk 8 (by decide) (by decide)), if_neg (hk 9 (by decide) (by decide)), if_neg (hk 10 (by decide) (by decide)), if_neg (hk 11 (by decide) (by decide)), if_neg (hk 12 (by decide) (by decide)), if_neg (hk 13 (by decide) (by decide)), if_neg (hk 14 (by decide) (by decide)), if_neg (hk 15 (by decide) (by decide))] at hQ
    refine wq_ldc_w q291_222 ?_
    refine rI q291_225 rfl ?_
    exact hQ
  · match i, ht, c6 with
    | 0, ht, c6 =>
      cases ht
      obtain rfl : w = (0 : Int32) := Int32.toInt_inj.mp (by rw [c6]; rfl)
      refine wq_aload_n q291_84 rfl ?_
      refine wq_getI q291_85 rfl rfl ?_
      refine rI q291_88 rfl ?_
      exact hQ
    | 1, ht, c6 =>
      cases ht
      obtain rfl : w = (1 : Int32) := Int32.toInt_inj.mp (by rw [c6]; rfl)
      refine wq_aload_n q291_89 rfl ?_
      refine wq_getI q291_90 rfl rfl ?_
      refine rI q291_93 rfl ?_
      exact hQ
    | 2, ht, c6 =>
      cases ht
      obtain rfl : w = (2 : Int32) := Int32.toInt_inj.mp (by rw [c6]; rfl)
      refine wq_aload_n q291_94 rfl ?_
      refine wq_getI q291_95 rfl rfl ?_
      refine rI q291_98 rfl ?_
      exact hQ
    | 3, ht, c6 =>
      cases ht
      obtain rfl : w = (3 : Int32) := Int32.toInt_inj.mp (by rw [c6]; rfl)
      refine wq_aload_n q291_99 rfl ?_
      refine wq_getI q291_100 rfl rfl ?_
      refine rI q291_103 rfl ?_
      exact hQ
    | 4, ht, c6 =>
      cases ht
      obtain rfl : w = (4 : Int32) := Int32.toInt_inj.mp (by rw [c6]; rfl)
      refine wq_aload_n q291_104 rfl ?_
      refine wq_getI q291_105 rfl rfl ?_
      refine rI q291_108 rfl ?_
      exact hQ
    | 5, ht, c6 =>
      cases ht
      obtain rfl : w = (5 : Int32) := Int32.toInt_inj.mp (by rw [c6]; rfl)
      refine wq_aload_n q291_109 rfl ?_
      refine wq_getI q291_110 rfl rfl ?_
      refine rI q291_113 rfl ?_
      exact hQ
    | 6, ht, c6 =>
      cases ht
      obtain rfl : w = (6 : Int32) := Int32.toInt_inj.mp (by rw [c6]; rfl)
      refine wq_aload_n q291_114 rfl ?_
      refine wq_getR q291_115 rfl rfl rfl ?_
      refine wq_bipush q291_118 ?_
      refine aI q291_120 rfl ((show (32 : Int32) = nI 32 from rfl)) (by decide) (by first | decide | omega) ?_
      refine rI q291_121 rfl ?_
      exact hQ
    | 7, ht, c6 =>
      cases ht
      obtain rfl : w = (7 : Int32) := Int32.toInt_inj.mp (by rw [c6]; rfl)
      have hQ : Q (some (.int te)) (HP (up2 hi 58 0 0) hl f dr t) := hQ
      refine wq_aload_n q291_122 rfl ?_
      refine wq_getI q291_123 rfl rfl ?_
      refine wq_if_ne q291_126 (fun c126 => ?_) (fun c126 => ?_)
      · rw [e26] at c126
        have hn0 : 0 < n := by
          by_cases z : n = 0
          · exact absurd (by rw [z]; rfl) c126
          · omega
        obtain ⟨hw, hwi, h63, rfl⟩ := hte1 hn0
        refine wq_aload_n q291_133 rfl ?_
        refine wq_aload_n q291_134 rfl ?_
        refine wq_getR q291_135 rfl rfl rfl ?_
        refine cV (As := [_]) q291_138 m_213 rfl rfl rfl ⟨by decide, rfl⟩ rfl (c_rteller (Or.inl rfl) hn h26 h63 hw hwi ?_)
        refine rI q291_141 rfl ?_
        exact hQ
      · rw [e26, show (0 : Int32) = nI 0 from rfl, nI_eq (by omega) (by omega)] at c126
        rw [hte0 c126] at hQ
        refine wq_iconst q291_129 ?_
        refine wq_goto q291_130 ?_
        refine rI q291_141 rfl ?_
        exact hQ
    | 8, ht, c6 =>
      cases ht
      obtain rfl : w = (8 : Int32) := Int32.toInt_inj.mp (by rw [c6]; rfl)
      refine wq_aload_n q291_142 rfl ?_
      refine wq_getR q291_143 rfl rfl rfl ?_
      refine wq_bipush q291_146 ?_
      refine aI q291_148 rfl ((show (28 : Int32) = nI 28 from rfl)) (by decide) (by first | decide | omega) ?_
      refine rI q291_149 rfl ?_
      exact hQ
    | 9, ht, c6 =>
      cases ht
      obtain rfl : w = (9 : Int32) := Int32.toInt_inj.mp (by rw [c6]; rfl)
      refine wq_aload_n q291_150 rfl ?_
      refine wq_getR q291_151 rfl rfl rfl ?_
      refine wq_bipush q291_154 ?_
      refine aI q291_156 rfl ((show (29 : Int32) = nI 29 from rfl)) (by decide) (by first | decide | omega) ?_
      refine rI q291_157 rfl ?_
      exact hQ
    | 10, ht, c6 =>
      cases ht
      obtain rfl : w = (10 : Int32) := Int32.toInt_inj.mp (by rw [c6]; rfl)
      refine wq_aload_n q291_158 rfl ?_
      refine wq_getR q291_159 rfl rfl rfl ?_
      refine wq_bipush q291_162 ?_
      refine aI q291_164 rfl ((show (30 : Int32) = nI 30 from rfl)) (by decide) (by first | decide | omega) ?_
      refine rI q291_165 rfl ?_
      exact hQ
    | 11, ht, c6 =>
      cases ht
      obtain rfl : w = (11 : Int32) := Int32.toInt_inj.mp (by rw [c6]; rfl)
      refine wq_iconst q291_166 ?_
      refine wq_istore_n (ls' := [_, _, _, _]) q291_167 rfl ?_
      refine wq_iconst q291_168 ?_
      refine wq_istore_n (ls' := [_, _, _, _]) q291_169 rfl ?_
      exact c_rsum_loop2 (hi := up2 hi 58 0 0) hn h26 n 0 0 (by omega) hQ
    | 12, ht, c6 =>
      cases ht
      obtain rfl : w = (12 : Int32) := Int32.toInt_inj.mp (by rw [c6]; rfl)
      refine wq_aload_n q291_199 rfl ?_
      refine wq_getI q291_200 rfl rfl ?_
      refine rI q291_203 rfl ?_
      exact hQ
    | 13, ht, c6 =>
      cases ht
      obtain rfl : w = (13 : Int32) := Int32.toInt_inj.mp (by rw [c6]; rfl)
      refine wq_aload_n q291_204 rfl ?_
      refine wq_getI q291_205 rfl rfl ?_
      refine rI q291_208 rfl ?_
      exact hQ
    | 14, ht, c6 =>
      cases ht
      obtain rfl : w = (14 : Int32) := Int32.toInt_inj.mp (by rw [c6]; rfl)
      refine wq_aload_n q291_209 rfl ?_
      refine wq_getR q291_210 rfl rfl rfl ?_
      refine wq_bipush q291_213 ?_
      refine aI q291_215 rfl ((show (33 : Int32) = nI 33 from rfl)) (by decide) (by first | decide | omega) ?_
      refine rI q291_216 rfl ?_
      exact hQ
    | 15, ht, c6 =>
      cases ht
      obtain rfl : w = (15 : Int32) := Int32.toInt_inj.mp (by rw [c6]; rfl)
      refine wq_aload_n q291_217 rfl ?_
      refine wq_getI q291_218 rfl rfl ?_
      refine rI q291_221 rfl ?_
      exact hQ
    | i + 16, ht, _ => simp at ht
end REFWEARS
