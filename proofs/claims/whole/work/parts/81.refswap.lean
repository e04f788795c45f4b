/-! THE REFERENCE: swaps, prices -/
/-- the class's best so far, and the reference's -/
def SR (x y : Int32 × Int32) : Prop := (y = x ∧ ¬ x.1 = -1) ∨ (x = (-1, -1) ∧ y = (-1, 0))
theorem SR.step {x y : Int32 × Int32} {z g : Int32} (h : SR x y) (hg : -1 < g) (hz : ¬ z = -1) : SR (if x.2 < g then (z, g) else x) (if y.1 = -1 ∨ y.2 < g then (z, g) else y) := by
  rcases h with ⟨rfl, h1⟩ | ⟨rfl, rfl⟩
  · by_cases hc : y.2 < g
    · rw [if_pos hc, if_pos (Or.inr hc)]
      exact Or.inl ⟨rfl, hz⟩
    · rw [if_neg hc, if_neg (fun q => q.elim h1 hc)]
      exact Or.inl ⟨rfl, h1⟩
  · rw [if_pos hg, if_pos (Or.inl rfl)]
    exact Or.inl ⟨rfl, hz⟩
theorem SR.ne {x y : Int32 × Int32} (h : SR x y) (hx : ¬ x.1 = -1) : y = x := by
  rcases h with ⟨h1, -⟩ | ⟨rfl, -⟩
  · exact h1
  · exact absurd rfl hx
theorem ab_ne {a b : Nat} (ha : a < 7) (hb : b < 7) : ¬ 10 * nI a + nI b = -1 := by
  rw [show (10 : Int32) = nI 10 from rfl, pk_mul, nI_add]
  exact nI_nm1 (by omega)
theorem swI_ne {g : Nat → Nat → Int32} {a : Nat} (ha : a < 7) : ∀ (m b : Nat) (x : Int32 × Int32), b + m ≤ 7 → ¬ x.1 = -1 → ¬ (swI g a m b x).1 = -1 := by
  intro m
  induction m with
  | zero => intro b x _ h; exact h
  | succ m ih =>
    intro b x hb h
    rw [swI]
    refine ih (b + 1) _ (by omega) ?_
    split
    · exact ab_ne ha (by omega)
    · exact h
theorem swO_ne {g : Nat → Nat → Int32} {n : Nat} (hn : n ≤ 7) : ∀ (m a : Nat) (x : Int32 × Int32), a + m ≤ n → ¬ x.1 = -1 → ¬ (swO g n m a x).1 = -1 := by
  intro m
  induction m with
  | zero => intro a x _ h; exact h
  | succ m ih =>
    intro a x ha h
    rw [swO]
    exact ih (a + 1) _ (by omega) (swI_ne (by omega) _ _ _ (by omega) h)
theorem swO_yes {g : Nat → Nat → Int32} {n : Nat} (hn : n ≤ 7) (hn2 : 2 ≤ n) (hg : -1 < g 0 1) : ¬ (swO g n n 0 (-1, -1)).1 = -1 := by
  rw [show n = (n - 1) + 1 by omega, swO, show n - 1 + 1 - (0 + 1) = (n - 2) + 1 by omega, swI, if_pos hg]
  exact swO_ne (by omega) _ _ _ (by omega) (swI_ne (by omega) _ _ _ (by omega) (ab_ne (by omega) (by omega)))
theorem bsR_ne {g : Nat → Int32} : ∀ (m p : Nat) (x : Int32 × Int32), p + m ≤ 100 → ¬ x.1 = -1 → ¬ (bsR g m p x).1 = -1 := by
  intro m
  induction m with
  | zero => intro p x _ h; exact h
  | succ m ih =>
    intro p x hp h
    rw [bsR]
    refine ih (p + 1) _ (by omega) ?_
    split
    · exact nI_nm1 (by omega)
    · exact h
theorem iiB_01 {x : Int32} : iiB x.toInt64 0 1 = true ↔ 0 ≤ x ∧ x ≤ 1 := iiB_in 0 1 rfl rfl
section REFSWAP
variable {G : ph_G} {d f dr t n r ev wi sz lg : Nat} {hi hi' : Nat → Nat → Int32} {hl : Nat → Nat → Int64} {Q : Option Value → ph_H → Prop} {row : Nat → Int32} {lw : Option Nat}
theorem c_rswap_in {g : Nat → Nat → Int32} {A : Nat} {x1 : Int32} (hF : RF hi f lw sz n ev wi) (hw : RW n row (hi 71)) (hlg : lg ≤ 60) (h33 : hi 71 33 = nI lg) (hg : ∀ a b, g a b = gnV hi f lw sz n ev wi (hi (f + 1) 3) (swR row n (nI a) (nI b))) (hg0 : ∀ a b, a < n → b < n → -1 < g a b) (hA : A < n) :
    ∀ (m b : Nat) (x y : Int32 × Int32) (hi' : Nat → Nat → Int32) (t' : Nat) (x6 : Option Value), b + m = n → RS hi hi' → SR x y →
    (∀ hi2 t2 y' x5 x6, RS hi hi2 → SR (swI g A m b x) y' → wq G (0, 0) (d + 38) 280 125 [some (.ref 58), some (.int x1), some (.int y'.1), some (.int y'.2), some (.int (nI A)), x5, x6] [] (0, 0) (HP hi2 hl f dr t2) Q) →
    wq G (0, 0) (d + 38) 280 46 [some (.ref 58), some (.int x1), some (.int y.1), some (.int y.2), some (.int (nI A)), some (.int (nI b)), x6] [] (0, 0) (HP hi' hl f dr t') Q := by
  have hn := hF.2.1.1
  intro m
  induction m with
  | zero =>
    intro b x y hi' t' x6 hm hS hxy K
    obtain rfl : b = n := by omega
    have ec : hI (HP hi' hl f dr t') 58 26 = nI b := (hS.2.1 26 (by decide)).trans hF.2.2.1.1
    refine wq_iload q280_46 rfl ?_
    refine wq_aload_n q280_48 rfl ?_
    refine wq_getI q280_49 rfl rfl ?_
    refine wq_icmp_ge q280_52 (fun c52 => ?_) (fun c52 => ?_)
    · exact K hi' t' y _ _ hS hxy
    · rw [ec] at c52
      exact absurd (nI_le (Nat.le_refl _) (by omega)) c52
  | succ m ih =>
    intro b x y hi' t' x6 hm hS hxy K
    have ec : hI (HP hi' hl f dr t') 58 26 = nI n := (hS.2.1 26 (by decide)).trans hF.2.2.1.1
    have e71 : hi' 71 = hi 71 := hS.1 71 (by decide)
    rw [swI] at K
    have hst := hxy.step (hg0 A b hA (by omega)) (ab_ne (a := A) (b := b) (by omega) (by omega))
    refine wq_iload q280_46 rfl ?_
    refine wq_aload_n q280_48 rfl ?_
    refine wq_getI q280_49 rfl rfl ?_
    refine wq_icmp_ge q280_52 (fun c52 => ?_) (fun c52 => ?_)
    · rw [ec, nI_leI (by omega) (by omega)] at c52
      omega
    · refine wq_aload_n q280_55 rfl ?_
      refine wq_getR q280_56 rfl rfl rfl ?_
      refine wq_aload_n q280_59 rfl ?_
      refine wq_getR q280_60 rfl rfl rfl ?_
      refine cS' (As := [_, _]) q280_63 m_208 rfl rfl rfl (c_rcopy (lg := lg) (Or.inl ⟨rfl, rfl⟩) hlg (by rw [e71]; exact h33) (fun Z hZ => ?_))
      have hwZ : RW n row Z := by
        refine hw.ext hn (fun j hj => ?_)
        rw [hZ j (by omega), e71]
      refine wq_aload_n q280_66 rfl ?_
      refine wq_getR q280_67 rfl rfl rfl ?_
      refine wq_iload q280_70 rfl ?_
      refine wq_iload q280_72 rfl ?_
      refine cS' (As := [_, _, _]) q280_74 m_234 rfl rfl rfl (c_changes (Or.inr rfl) (by omega) (by omega) ?_)
      rw [upC_s, upC_C]
      have hS2 : RS hi (upC hi' 72 (chW Z A b)) := hS.tr (rs_cp _)
      have e633 : hI (HP (upC hi' 72 (chW Z A b)) hl f dr t') 63 3 = hi (f + 1) 3 := by
        show upC hi' 72 (chW Z A b) 63 3 = _
        rw [hS2.1 63 (by decide)]
        exact hF.2.2.1.2.2.1 3 (by decide)
      refine wq_aload_n q280_77 rfl ?_
      refine wq_aload_n q280_78 rfl ?_
      refine wq_getR q280_79 rfl rfl rfl ?_
      refine wq_aload_n q280_82 rfl ?_
      refine wq_getR q280_83 rfl rfl rfl ?_
      refine wq_iconst q280_86 ?_
      refine aI q280_87 rfl ((show (3 : Int32) = nI 3 from rfl)) (by decide) (by first | decide | omega) ?_
      rw [e633]
      refine cV (As := [_, _]) q280_88 m_256 rfl rfl rfl ⟨by decide, rfl⟩ rfl (c_rseatOf (d := d + 1) (hS2.mv hF) (Or.inr rfl) (by rw [upC_s]; exact hwZ.sw hn hA (show b < n by omega)) (fun hi2 t2 hN => ?_))
      rw [gnV_congr (hS2.fl hF), ← hg A b]
      have hS3 := hN.rs' hS2
      refine wq_istore (ls' := [_, _, _, _, _, _, _]) q280_91 rfl ?_
      refine wq_iload_n q280_93 rfl ?_
      refine wq_iconst q280_94 ?_
      refine wq_icmp_eq q280_95 (fun c95 => ?_) (fun c95 => ?_)
      · rw [if_pos (Or.inl c95)] at hst
        refine wq_bipush q280_107 ?_
        refine wq_iload q280_109 rfl ?_
        refine wq_imul q280_111 ?_
        refine wq_iload q280_112 rfl ?_
        refine wq_iadd q280_114 ?_
        refine wq_istore_n (ls' := [_, _, _, _, _, _, _]) q280_115 rfl ?_
        refine wq_iload q280_116 rfl ?_
        refine wq_istore_n (ls' := [_, _, _, _, _, _, _]) q280_118 rfl ?_
        refine wq_iinc (ls' := [_, _, _, _, _, _, _]) q280_119 rfl rfl ?_
        refine wq_goto q280_122 ?_
        rw [nI_1]
        exact ih (b + 1) _ (10 * nI A + nI b, g A b) hi2 t2 _ (by omega) hS3 hst K
      · refine wq_iload q280_98 rfl ?_
        refine wq_iload_n q280_100 rfl ?_
        refine wq_icmp_gt q280_101 (fun c101 => ?_) (fun c101 => ?_)
        · rw [if_pos (Or.inr c101)] at hst
          refine wq_bipush q280_107 ?_
          refine wq_iload q280_109 rfl ?_
          refine wq_imul q280_111 ?_
          refine wq_iload q280_112 rfl ?_
          refine wq_iadd q280_114 ?_
          refine wq_istore_n (ls' := [_, _, _, _, _, _, _]) q280_115 rfl ?_
          refine wq_iload q280_116 rfl ?_
          refine wq_istore_n (ls' := [_, _, _, _, _, _, _]) q280_118 rfl ?_
          refine wq_iinc (ls' := [_, _, _, _, _, _, _]) q280_119 rfl rfl ?_
          refine wq_goto q280_122 ?_
          rw [nI_1]
          exact ih (b + 1) _ (10 * nI A + nI b, g A b) hi2 t2 _ (by omega) hS3 hst K
        · rw [if_neg (show ¬ (y.1 = -1 ∨ y.2 < g A b) from fun q => q.elim c95 c101)] at hst
          refine wq_goto q280_104 ?_
          refine wq_iinc (ls' := [_, _, _, _, _, _, _]) q280_119 rfl rfl ?_
          refine wq_goto q280_122 ?_
          rw [nI_1]
          exact ih (b + 1) _ y hi2 t2 _ (by omega) hS3 hst K
theorem c_rswap_out {g : Nat → Nat → Int32} {x1 : Int32} (hF : RF hi f lw sz n ev wi) (hw : RW n row (hi 71)) (hlg : lg ≤ 60) (h33 : hi 71 33 = nI lg) (hg : ∀ a b, g a b = gnV hi f lw sz n ev wi (hi (f + 1) 3) (swR row n (nI a) (nI b))) (hg0 : ∀ a b, a < n → b < n → -1 < g a b) :
    ∀ (m A : Nat) (x y : Int32 × Int32) (hi' : Nat → Nat → Int32) (t' : Nat) (x5 x6 : Option Value), A + m = n → RS hi hi' → SR x y →
    (∀ hi2 t2 y' x4 x5 x6, RS hi hi2 → SR (swO g n m A x) y' → wq G (0, 0) (d + 38) 280 131 [some (.ref 58), some (.int x1), some (.int y'.1), some (.int y'.2), x4, x5, x6] [] (0, 0) (HP hi2 hl f dr t2) Q) →
    wq G (0, 0) (d + 38) 280 31 [some (.ref 58), some (.int x1), some (.int y.1), some (.int y.2), some (.int (nI A)), x5, x6] [] (0, 0) (HP hi' hl f dr t') Q := by
  have hn := hF.2.1.1
  intro m
  induction m with
  | zero =>
    intro A x y hi' t' x5 x6 hm hS hxy K
    obtain rfl : A = n := by omega
    have ec : hI (HP hi' hl f dr t') 58 26 = nI A := (hS.2.1 26 (by decide)).trans hF.2.2.1.1
    refine wq_iload q280_31 rfl ?_
    refine wq_aload_n q280_33 rfl ?_
    refine wq_getI q280_34 rfl rfl ?_
    refine wq_icmp_ge q280_37 (fun c37 => ?_) (fun c37 => ?_)
    · exact K hi' t' y _ _ _ hS hxy
    · rw [ec] at c37
      exact absurd (nI_le (Nat.le_refl _) (by omega)) c37
  | succ m ih =>
    intro A x y hi' t' x5 x6 hm hS hxy K
    have ec : hI (HP hi' hl f dr t') 58 26 = nI n := (hS.2.1 26 (by decide)).trans hF.2.2.1.1
    rw [swO] at K
    refine wq_iload q280_31 rfl ?_
    refine wq_aload_n q280_33 rfl ?_
    refine wq_getI q280_34 rfl rfl ?_
    refine wq_icmp_ge q280_37 (fun c37 => ?_) (fun c37 => ?_)
    · rw [ec, nI_leI (by omega) (by omega)] at c37
      omega
    · refine wq_iload q280_40 rfl ?_
      refine wq_iconst q280_42 ?_
      refine wq_iadd q280_43 ?_
      refine wq_istore (ls' := [_, _, _, _, _, _, _]) q280_44 rfl ?_
      rw [nI_1]
      refine c_rswap_in hF hw hlg h33 hg hg0 (show A < n by omega) (n - (A + 1)) (A + 1) x y hi' t' _ (by omega) hS hxy (fun hi2 t2 y' x5 x6 hS2 hy => ?_)
      refine wq_iinc (ls' := [_, _, _, _, _, _, _]) q280_125 rfl rfl ?_
      refine wq_goto q280_128 ?_
      rw [nI_1]
      exact ih (A + 1) _ y' hi2 t2 _ _ (by omega) hS2 hy K
theorem c_rswap {g : Nat → Nat → Int32} {x : Int32} (hF : RF hi f lw sz n ev wi) (hn2 : 2 ≤ n) (hw : RW n row (hi 71)) (hlg : lg ≤ 60) (h33 : hi 71 33 = nI lg) (hg : ∀ a b, g a b = gnV hi f lw sz n ev wi (hi (f + 1) 3) (swR row n (nI a) (nI b))) (hg0 : ∀ a b, a < n → b < n → -1 < g a b)
    (h0 : ¬ (0 ≤ x ∧ x ≤ 1) → Q (some (.int (-1))) (HP (up2 hi 58 0 0) hl f dr t))
    (h1 : 0 ≤ x → x ≤ 1 → ∀ hi2 t2, RS hi hi2 → Q (some (.int (if x = 0 then (swO g n n 0 (-1, -1)).1 else (swO g n n 0 (-1, -1)).2))) (HP hi2 hl f dr t2)) :
    Ct G (0, 0) (d + 38) 280 [.ref 58, .int x] (HP hi hl f dr t) Q := by
  have hn := hF.2.1.1
  have hr0 : RS hi (up2 hi 58 0 0) := RS.upK (by decide) _
  have e26 : hI (HP (up2 hi 58 0 0) hl f dr t) 58 26 = nI n := hF.2.2.1.1
  refine Ct_of (ls := [_, _, _, _, _, _, _]) m_280.1.2.2.1 (Nat.le_of_ble_eq_true rfl) rfl ?_
  refine wq_aload_n q280_0 rfl ?_
  refine wq_iconst q280_1 ?_
  refine wq_putI q280_2 rfl rfl rfl rfl ?_
  rw [hpS]
  refine wq_aload_n q280_5 rfl ?_
  refine wq_getI q280_6 rfl rfl ?_
  refine wq_if_eq q280_9 (fun c9 => ?_) (fun c9 => ?_)
  · rw [e26] at c9
    exact absurd c9 (nI_ne0 (by omega) (by omega))
  · refine wq_iload_n q280_12 rfl ?_
    refine wq_i2l q280_13 ?_
    refine wq_lconst q280_14 ?_
    refine wq_lconst q280_15 ?_
    refine cS' (As := [_, _, _]) q280_16 m_170 rfl rfl rfl (c_isIn ?_)
    refine wq_if_ne q280_19 (fun c19 => ?_) (fun c19 => ?_)
    · have c := iiB_01.mp (i10 c19)
      refine wq_iconst q280_24 ?_
      refine wq_istore_n (ls' := [_, _, _, _, _, _, _]) q280_25 rfl ?_
      refine wq_iconst q280_26 ?_
      refine wq_istore_n (ls' := [_, _, _, _, _, _, _]) q280_27 rfl ?_
      refine wq_iconst q280_28 ?_
      refine wq_istore (ls' := [_, _, _, _, _, _, _]) q280_29 rfl ?_
      refine c_rswap_out (d := d) (row := row) (lg := lg) hF hw hlg h33 hg hg0 n 0 (-1, -1) (-1, 0) (up2 hi 58 0 0) t _ _ (by omega) hr0 (Or.inr ⟨rfl, rfl⟩) (fun hi2 t2 y' x4 x5 x6 hS hy => ?_)
      have hy' := hy.ne (swO_yes hn hn2 (hg0 0 1 (by omega) (by omega)))
      subst hy'
      have hq := h1 c.1 c.2 hi2 t2 hS
      refine wq_iload_n q280_131 rfl ?_
      refine wq_if_ne q280_132 (fun c132 => ?_) (fun c132 => ?_)
      · rw [if_neg c132] at hq
        refine wq_iload_n q280_139 rfl ?_
        refine rI q280_140 rfl ?_
        exact hq
      · rw [if_pos c132] at hq
        refine wq_iload_n q280_135 rfl ?_
        refine wq_goto q280_136 ?_
        refine rI q280_140 rfl ?_
        exact hq
    · have c := i01 c19
      refine wq_iconst q280_22 ?_
      refine rI q280_23 rfl ?_
      exact h0 (fun z => by rw [iiB_01.mpr z] at c; cases c)
/-- prices -/
theorem c_rprice_loop {g : Nat → Int32} {x1 : Int32} (hF : RF hi f lw sz n ev wi) (hw : RW n row (hi 71)) (hlg : lg ≤ 60) (h33 : hi 71 33 = nI lg) (hg : ∀ p, g p = gnV hi f lw sz n ev wi (nI p) row) (hg0 : ∀ p, p < 10 → -1 < g p)
    (K : ∀ hi2 t2 y' x4 x5, RS hi hi2 → SR (bsR g 10 0 (-1, -1)) y' → wq G (0, 0) (d + 38) 284 87 [some (.ref 58), some (.int x1), some (.int y'.1), some (.int y'.2), x4, x5] [] (0, 0) (HP hi2 hl f dr t2) Q) :
    ∀ (m p : Nat) (x y : Int32 × Int32) (hi' : Nat → Nat → Int32) (t' : Nat) (x5 : Option Value), p + m = 10 → RS hi hi' → SR x y → bsR g 10 0 (-1, -1) = bsR g m p x →
    wq G (0, 0) (d + 38) 284 31 [some (.ref 58), some (.int x1), some (.int y.1), some (.int y.2), some (.int (nI p)), x5] [] (0, 0) (HP hi' hl f dr t') Q := by
  have hn := hF.2.1.1
  intro m
  induction m with
  | zero =>
    intro p x y hi' t' x5 hm hS hxy hb
    obtain rfl : p = 10 := by omega
    refine wq_iload q284_31 rfl ?_
    refine wq_bipush q284_33 ?_
    refine wq_icmp_gt q284_35 (fun c35 => ?_) (fun c35 => ?_)
    · exact K hi' t' y _ _ hS (by rw [hb]; exact hxy)
    · exact absurd (by decide) c35
  | succ m ih =>
    intro p x y hi' t' x5 hm hS hxy hb
    have e71 : hi' 71 = hi 71 := hS.1 71 (by decide)
    rw [bsR] at hb
    have hst := hxy.step (hg0 p (by omega)) (nI_nm1 (show p < 2 ^ 31 by omega))
    refine wq_iload q284_31 rfl ?_
    refine wq_bipush q284_33 ?_
    refine wq_icmp_gt q284_35 (fun c35 => ?_) (fun c35 => ?_)
    · rw [show (9 : Int32) = nI 9 from rfl, nI_ltI (by omega) (by omega)] at c35
      omega
    · refine wq_aload_n q284_38 rfl ?_
      refine wq_getR q284_39 rfl rfl rfl ?_
      refine wq_aload_n q284_42 rfl ?_
      refine wq_getR q284_43 rfl rfl rfl ?_
      refine cS' (As := [_, _]) q284_46 m_208 rfl rfl rfl (c_rcopy (lg := lg) (Or.inl ⟨rfl, rfl⟩) hlg (by rw [e71]; exact h33) (fun Z hZ => ?_))
      have hwZ : RW n row Z := by
        refine hw.ext hn (fun j hj => ?_)
        rw [hZ j (by omega), e71]
      have hS2 : RS hi (upC hi' 72 Z) := hS.tr (rs_cp _)
      refine wq_aload_n q284_49 rfl ?_
      refine wq_aload_n q284_50 rfl ?_
      refine wq_getR q284_51 rfl rfl rfl ?_
      refine wq_iload q284_54 rfl ?_
      refine cV (As := [_, _]) q284_56 m_256 rfl rfl rfl ⟨by decide, rfl⟩ rfl (c_rseatOf (d := d + 1) (hS2.mv hF) (Or.inr rfl) (by rw [upC_s]; exact hwZ) (fun hi2 t2 hN => ?_))
      rw [gnV_congr (hS2.fl hF), ← hg p]
      have hS3 := hN.rs' hS2
      refine wq_istore (ls' := [_, _, _, _, _, _]) q284_59 rfl ?_
      refine wq_iload_n q284_61 rfl ?_
      refine wq_iconst q284_62 ?_
      refine wq_icmp_eq q284_63 (fun c63 => ?_) (fun c63 => ?_)
      · rw [if_pos (Or.inl c63)] at hst
        refine wq_iload q284_75 rfl ?_
        refine wq_istore_n (ls' := [_, _, _, _, _, _]) q284_77 rfl ?_
        refine wq_iload q284_78 rfl ?_
        refine wq_istore_n (ls' := [_, _, _, _, _, _]) q284_80 rfl ?_
        refine wq_iinc (ls' := [_, _, _, _, _, _]) q284_81 rfl rfl ?_
        refine wq_goto q284_84 ?_
        rw [nI_1]
        exact ih (p + 1) _ (nI p, g p) hi2 t2 _ (by omega) hS3 hst hb
      · refine wq_iload q284_66 rfl ?_
        refine wq_iload_n q284_68 rfl ?_
        refine wq_icmp_gt q284_69 (fun c69 => ?_) (fun c69 => ?_)
        · rw [if_pos (Or.inr c69)] at hst
          refine wq_iload q284_75 rfl ?_
          refine wq_istore_n (ls' := [_, _, _, _, _, _]) q284_77 rfl ?_
          refine wq_iload q284_78 rfl ?_
          refine wq_istore_n (ls' := [_, _, _, _, _, _]) q284_80 rfl ?_
          refine wq_iinc (ls' := [_, _, _, _, _, _]) q284_81 rfl rfl ?_
          refine wq_goto q284_84 ?_
          rw [nI_1]
          exact ih (p + 1) _ (nI p, g p) hi2 t2 _ (by omega) hS3 hst hb
        · rw [if_neg (show ¬ (y.1 = -1 ∨ y.2 < g p) from fun q => q.elim c63 c69)] at hst
          refine wq_goto q284_72 ?_
          refine wq_iinc (ls' := [_, _, _, _, _, _]) q284_81 rfl rfl ?_
          refine wq_goto q284_84 ?_
          rw [nI_1]
          exact ih (p + 1) _ y hi2 t2 _ (by omega) hS3 hst hb
theorem c_rprice {g : Nat → Int32} {x : Int32} (hF : RF hi f lw sz n ev wi) (hw : RW n row (hi 71)) (hlg : lg ≤ 60) (h33 : hi 71 33 = nI lg) (hg : ∀ p, g p = gnV hi f lw sz n ev wi (nI p) row) (hg0 : ∀ p, p < 10 → -1 < g p)
    (h0 : ¬ (0 ≤ x ∧ x ≤ 1) → Q (some (.int (-1))) (HP (up2 hi 58 0 0) hl f dr t))
    (h1 : 0 ≤ x → x ≤ 1 → ∀ hi2 t2, RS hi hi2 → Q (some (.int (if x = 0 then (bsR g 10 0 (-1, -1)).1 else (bsR g 10 0 (-1, -1)).2))) (HP hi2 hl f dr t2)) :
    Ct G (0, 0) (d + 38) 284 [.ref 58, .int x] (HP hi hl f dr t) Q := by
  have hn := hF.2.1.1
  have hn1 := hF.2.1.2.1
  have hr0 : RS hi (up2 hi 58 0 0) := RS.upK (by decide) _
  have e26 : hI (HP (up2 hi 58 0 0) hl f dr t) 58 26 = nI n := hF.2.2.1.1
  refine Ct_of (ls := [_, _, _, _, _, _]) m_284.1.2.2.1 (Nat.le_of_ble_eq_true rfl) rfl ?_
  refine wq_aload_n q284_0 rfl ?_
  refine wq_iconst q284_1 ?_
  refine wq_putI q284_2 rfl rfl rfl rfl ?_
  rw [hpS]
  refine wq_aload_n q284_5 rfl ?_
  refine wq_getI q284_6 rfl rfl ?_
  refine wq_if_eq q284_9 (fun c9 => ?_) (fun c9 => ?_)
  · rw [e26] at c9
    exact absurd c9 (nI_ne0 (by omega) (by omega))
  · refine wq_iload_n q284_12 rfl ?_
    refine wq_i2l q284_13 ?_
    refine wq_lconst q284_14 ?_
    refine wq_lconst q284_15 ?_
    refine cS' (As := [_, _, _]) q284_16 m_170 rfl rfl rfl (c_isIn ?_)
    refine wq_if_ne q284_19 (fun c19 => ?_) (fun c19 => ?_)
    · have c := iiB_01.mp (i10 c19)
      refine wq_iconst q284_24 ?_
      refine wq_istore_n (ls' := [_, _, _, _, _, _]) q284_25 rfl ?_
      refine wq_iconst q284_26 ?_
      refine wq_istore_n (ls' := [_, _, _, _, _, _]) q284_27 rfl ?_
      refine wq_iconst q284_28 ?_
      refine wq_istore (ls' := [_, _, _, _, _, _]) q284_29 rfl ?_
      refine c_rprice_loop (d := d) (row := row) (lg := lg) hF hw hlg h33 hg hg0 (fun hi2 t2 y' x4 x5 hS hy => ?_) 10 0 (-1, -1) (-1, 0) (up2 hi 58 0 0) t _ (by omega) hr0 (Or.inr ⟨rfl, rfl⟩) rfl
      have hne : ¬ (bsR g 10 0 (-1, -1)).1 = -1 := by
        rw [bsR, if_pos (hg0 0 (by omega))]
        exact bsR_ne _ _ _ (by omega) (show ¬ nI 0 = -1 by decide)
      have hy' := hy.ne hne
      subst hy'
      have hq := h1 c.1 c.2 hi2 t2 hS
      refine wq_iload_n q284_87 rfl ?_
      refine wq_if_ne q284_88 (fun c88 => ?_) (fun c88 => ?_)
      · rw [if_neg c88] at hq
        refine wq_iload_n q284_95 rfl ?_
        refine rI q284_96 rfl ?_
        exact hq
      · rw [if_pos c88] at hq
        refine wq_iload_n q284_91 rfl ?_
        refine wq_goto q284_92 ?_
        refine rI q284_96 rfl ?_
        exact hq
    · have c := i01 c19
      refine wq_iconst q284_22 ?_
      refine rI q284_23 rfl ?_
      exact h0 (fun z => by rw [iiB_01.mpr z] at c; cases c)
end REFSWAP
