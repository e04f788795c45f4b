/-! THE REFERENCE: years by draws -/
theorem hpL (hi : Nat → Nat → Int32) (hl : Nat → Nat → Int64) (f dr t a i : Nat) (x : Int64) : stL (HP hi hl f dr t) a i x = HP hi (up2 hl a i x) f dr t := rfl
/-- years of the reference, day by day -/
def RYr (f : Nat) (lw : Option Nat) (sz n ev wi : Nat) (gu : Int32) : Nat → (Nat → Int32) → Int64 → (Nat → Nat → Int32) → (Nat → Nat → Int32) → Prop
  | 0, _, _, hi, hi' => hi' = hi
  | k + 1, row, x, hi, hi' => ∃ hi1 a, hi 58 38 = nI a ∧ a ≤ 40 ∧ RStep n a (ddR hi f lw sz n ev wi gu (row, x)).1 true hi hi1 ∧ RYr f lw sz n ev wi gu k (edR (ddR hi f lw sz n ev wi gu (row, x)).1) (ddR hi f lw sz n ev wi gu (row, x)).2 hi1 hi'
theorem up2L_uu (f : Nat → Nat → Int64) (a i : Nat) (v w : Int64) : up2 (up2 f a i v) a i w = up2 f a i w := up2_uu f a i v w
section REFYEARS
variable {G : ph_G} {d f dr t n r ev wi sz lg a : Nat} {hi hi' : Nat → Nat → Int32} {hl : Nat → Nat → Int64} {Q : Option Value → ph_H → Prop} {row : Nat → Int32} {lw : Option Nat}
theorem c_draw (hQ : Q (some (.int (drV (nxX (hl 58 39))))) (HP hi (up2 hl 58 39 (nxX (hl 58 39))) f dr t)) : Ct G (0, 0) d 243 [.ref 58, .int 10] (HP hi hl f dr t) Q := by
  refine Ct_of (ls := [_, _]) m_243.1.2.2.1 (Nat.le_of_ble_eq_true rfl) rfl ?_
  refine wq_aload_n q243_0 rfl ?_
  refine wq_aload_n q243_1 rfl ?_
  refine wq_getL q243_2 rfl rfl ?_
  refine wq_ldc2_w q243_5 ?_
  refine wq_lmul q243_8 ?_
  refine wq_ldc2_w q243_9 ?_
  refine wq_ladd q243_12 ?_
  refine wq_putL q243_13 rfl rfl ?_
  rw [hpL]
  refine wq_aload_n q243_16 rfl ?_
  refine wq_getL q243_17 rfl rfl ?_
  refine wq_bipush q243_20 ?_
  refine wq_lushr q243_22 ?_
  refine wq_iload_n q243_23 rfl ?_
  refine wq_i2l q243_24 ?_
  refine wq_lrem q243_25 (by decide) ?_
  refine wq_l2i q243_26 ?_
  refine rI q243_27 rfl ?_
  exact hQ
/-- the worthiest other -/
theorem c_bestOther_loop {te : Nat} {mr : Nat → Int32} (hn : n ≤ 7) (h26 : hi 58 26 = nI n) (hte : te < n) (hmr : ∀ p, p < n → hi 65 (p * 5 + 1) = mr p) : ∀ (m p j : Nat) (b : Int32), p + m = n → j < n → ((b = -1 ∧ j = te ∧ (∀ q, q < p → q = te)) ∨ (b = nI j ∧ j ≠ te)) → 2 ≤ n → Q (some (.int (nI (wbR mr te m p j)))) (HP hi hl f dr t) →
    wq G (0, 0) (d + 1) 244 4 [some (.ref 58), some (.int (nI te)), some (.int b), some (.int (nI p))] [] (0, 0) (HP hi hl f dr t) Q := by
  have ec : hI (HP hi hl f dr t) 58 26 = nI n := h26
  intro m
  induction m with
  | zero =>
    intro p j b hm hj hb hn2 hQ
    obtain rfl : p = n := by omega
    rw [wbR] at hQ
    have hb' : b = nI j := by
      rcases hb with ⟨-, -, h3⟩ | ⟨h1, -⟩
      · have q0 := h3 0 (by omega)
        have q1 := h3 1 (by omega)
        omega
      · exact h1
    subst hb'
    refine wq_iload_n q244_4 rfl ?_
    refine wq_aload_n q244_5 rfl ?_
    refine wq_getI q244_6 rfl rfl ?_
    refine wq_icmp_ge q244_9 (fun c9 => ?_) (fun c9 => ?_)
    · refine wq_iload_n q244_45 rfl ?_
      refine rI q244_46 rfl ?_
      exact hQ
    · rw [ec] at c9
      exact absurd (nI_le (Nat.le_refl _) (by omega)) c9
  | succ m ih =>
    intro p j b hm hj hb hn2 hQ
    rw [wbR] at hQ
    refine wq_iload_n q244_4 rfl ?_
    refine wq_aload_n q244_5 rfl ?_
    refine wq_getI q244_6 rfl rfl ?_
    refine wq_icmp_ge q244_9 (fun c9 => ?_) (fun c9 => ?_)
    · rw [ec, nI_leI (by omega) (by omega)] at c9
      omega
    · refine wq_iload_n q244_12 rfl ?_
      refine wq_iload_n q244_13 rfl ?_
      refine wq_icmp_eq q244_14 (fun c14 => ?_) (fun c14 => ?_)
      · rw [nI_eq (by omega) (by omega)] at c14
        rw [if_neg (show ¬ (p ≠ te ∧ (j = te ∨ mr j < mr p)) from fun z => z.1 c14)] at hQ
        refine wq_iinc (ls' := [_, _, _, _]) q244_39 rfl rfl ?_
        refine wq_goto q244_42 ?_
        rw [nI_1]
        refine ih (p + 1) j b (by omega) hj ?_ hn2 hQ
        rcases hb with ⟨h1, h2, h3⟩ | h
        · refine Or.inl ⟨h1, h2, fun q hq => ?_⟩
          by_cases hqp : q = p
          · rw [hqp, c14]
          · exact h3 q (by omega)
        · exact Or.inr h
      · rw [nI_eq (by omega) (by omega)] at c14
        refine wq_iload_n q244_17 rfl ?_
        refine wq_iconst q244_18 ?_
        refine wq_icmp_eq q244_19 (fun c19 => ?_) (fun c19 => ?_)
        · have hjt : j = te := by
            rcases hb with ⟨-, h2, -⟩ | ⟨h1, -⟩
            · exact h2
            · exact absurd (h1.symm.trans c19) (nI_nm1 (by omega))
          rw [if_pos ⟨c14, Or.inl hjt⟩] at hQ
          refine wq_iload_n q244_37 rfl ?_
          refine wq_istore_n (ls' := [_, _, _, _]) q244_38 rfl ?_
          refine wq_iinc (ls' := [_, _, _, _]) q244_39 rfl rfl ?_
          refine wq_goto q244_42 ?_
          rw [nI_1]
          exact ih (p + 1) p _ (by omega) (by omega) (Or.inr ⟨rfl, c14⟩) hn2 hQ
        · have hbj : b = nI j ∧ j ≠ te := by
            rcases hb with ⟨h1, -⟩ | h
            · exact absurd h1 c19
            · exact h
          obtain ⟨rfl, hjt⟩ := hbj
          refine wq_aload_n q244_22 rfl ?_
          refine wq_iload_n q244_23 rfl ?_
          refine wq_iconst q244_24 ?_
          refine cV (As := [_, _]) q244_25 m_211 rfl rfl rfl ⟨by decide, rfl⟩ rfl (c_toldH (w := 1) (by omega) (by omega) ?_)
          rw [hmr p (by omega)]
          refine wq_aload_n q244_28 rfl ?_
          refine wq_iload_n q244_29 rfl ?_
          refine wq_iconst q244_30 ?_
          refine cV (As := [_, _]) q244_31 m_211 rfl rfl rfl ⟨by decide, rfl⟩ rfl (c_toldH (w := 1) (by omega) (by omega) ?_)
          rw [hmr j hj]
          refine wq_icmp_le q244_34 (fun c34 => ?_) (fun c34 => ?_)
          · rw [if_neg (show ¬ (p ≠ te ∧ (j = te ∨ mr j < mr p)) from fun z => z.2.elim hjt (Int32.not_lt.mpr c34))] at hQ
            refine wq_iinc (ls' := [_, _, _, _]) q244_39 rfl rfl ?_
            refine wq_goto q244_42 ?_
            rw [nI_1]
            exact ih (p + 1) j _ (by omega) hj (Or.inr ⟨rfl, hjt⟩) hn2 hQ
          · rw [if_pos ⟨c14, Or.inr (Int32.not_le.mp c34)⟩] at hQ
            refine wq_iload_n q244_37 rfl ?_
            refine wq_istore_n (ls' := [_, _, _, _]) q244_38 rfl ?_
            refine wq_iinc (ls' := [_, _, _, _]) q244_39 rfl rfl ?_
            refine wq_goto q244_42 ?_
            rw [nI_1]
            exact ih (p + 1) p _ (by omega) (by omega) (Or.inr ⟨rfl, c14⟩) hn2 hQ
theorem c_bestOther {te : Nat} {mr : Nat → Int32} (hn : n ≤ 7) (hn2 : 2 ≤ n) (h26 : hi 58 26 = nI n) (hte : te < n) (hmr : ∀ p, p < n → hi 65 (p * 5 + 1) = mr p) (hQ : Q (some (.int (nI (wbR mr te n 0 te)))) (HP hi hl f dr t)) : Ct G (0, 0) (d + 1) 244 [.ref 58, .int (nI te)] (HP hi hl f dr t) Q := by
  refine Ct_of (ls := [_, _, _, _]) m_244.1.2.2.1 (Nat.le_of_ble_eq_true rfl) rfl ?_
  refine wq_iconst q244_0 ?_
  refine wq_istore_n (ls' := [_, _, _, _]) q244_1 rfl ?_
  refine wq_iconst q244_2 ?_
  refine wq_istore_n (ls' := [_, _, _, _]) q244_3 rfl ?_
  exact c_bestOther_loop hn h26 hte hmr n 0 te (-1) (by omega) hte (Or.inl ⟨rfl, rfl, fun q hq => by omega⟩) hn2 hQ
/-- what is drawn to be seen -/
theorem c_ryr_ev {N k : Nat} {sd : Int64} {x6 : Option Value} {ch : Nat → Int32} (hn : n ≤ 7) (h27 : hi 58 27 = nI ev) (hev : ev ≤ 6) (hch : ∀ e, e < ev → hi 67 (e * 2 + 1) = ch e)
    (K : ∀ (x : (Nat → Int32) × Int64) (W : Nat → Int32) (x5 : Option Value), RW n x.1 W → KN n x.1 W → (∀ j, 33 ≤ j → W j = hi 71 j) → x = deR ch ev 0 (row, hl 58 39) → wq G (0, 0) (d + 38) 245 100 [some (.ref 58), some (.int (nI N)), some (.long sd), none, some (.int (nI k)), x5, x6] [] (0, 0) (HP (upC hi 71 W) (up2 hl 58 39 x.2) f dr t) Q) :
    ∀ (m e : Nat) (x : (Nat → Int32) × Int64) (W : Nat → Int32), e + m = ev → RW n x.1 W → KN n x.1 W → (∀ j, 33 ≤ j → W j = hi 71 j) → deR ch ev 0 (row, hl 58 39) = deR ch m e x →
    wq G (0, 0) (d + 38) 245 36 [some (.ref 58), some (.int (nI N)), some (.long sd), none, some (.int (nI k)), some (.int (nI e)), x6] [] (0, 0) (HP (upC hi 71 W) (up2 hl 58 39 x.2) f dr t) Q := by
  have ec : ∀ W hl', hI (HP (upC hi 71 W) hl' f dr t) 58 27 = nI ev := fun _ _ => h27
  intro m
  induction m with
  | zero =>
    intro e x W hm hw hk h33 hx
    obtain rfl : e = ev := by omega
    refine wq_iload q245_36 rfl ?_
    refine wq_aload_n q245_38 rfl ?_
    refine wq_getI q245_39 rfl rfl ?_
    refine wq_icmp_ge q245_42 (fun c42 => ?_) (fun c42 => ?_)
    · exact K x W _ hw hk h33 (by rw [hx]; rfl)
    · rw [ec] at c42
      exact absurd (nI_le (Nat.le_refl _) (by omega)) c42
  | succ m ih =>
    intro e x W hm hw hk h33 hx
    rw [deR] at hx
    have e28 : W 28 = x.1 28 := hw.2.2.2.2.1
    have eW : ∀ hl', hI (HP (upC hi 71 W) hl' f dr t) 71 28 = x.1 28 := fun _ => e28
    have ecE : ∀ hl', hI (HP (upC hi 71 W) hl' f dr t) 67 (e * 2 + 1) = ch e := fun _ => hch e (by omega)
    refine wq_iload q245_36 rfl ?_
    refine wq_aload_n q245_38 rfl ?_
    refine wq_getI q245_39 rfl rfl ?_
    refine wq_icmp_ge q245_42 (fun c42 => ?_) (fun c42 => ?_)
    · rw [ec, nI_leI (by omega) (by omega)] at c42
      omega
    · refine wq_aload_n q245_45 rfl ?_
      refine wq_getR q245_46 rfl rfl rfl ?_
      refine wq_bipush q245_49 ?_
      refine aI q245_51 rfl ((show (28 : Int32) = nI 28 from rfl)) (by decide) (by first | decide | omega) ?_
      rw [eW]
      refine wq_iload q245_52 rfl ?_
      refine cS' (As := [_, _]) q245_54 m_171 rfl rfl rfl (c_rhas ?_)
      refine wq_if_ne q245_57 (fun c57 => ?_) (fun c57 => ?_)
      · have c := i10 c57
        have ed : deS ch e x = x := by unfold deS; rw [if_pos (show seB x.1 e = true from c)]
        rw [ed] at hx
        refine wq_iinc (ls' := [_, _, _, _, _, _, _]) q245_94 rfl rfl ?_
        refine wq_goto q245_97 ?_
        rw [nI_1]
        exact ih (e + 1) x W (by omega) hw hk h33 hx
      · have c := i01 c57
        have hno : ¬ seB x.1 e = true := by rw [show seB x.1 e = false from c]; decide
        refine wq_aload_n q245_60 rfl ?_
        refine wq_bipush q245_61 ?_
        refine cV (As := [_]) q245_63 m_243 rfl rfl rfl ⟨by decide, rfl⟩ rfl (c_draw ?_)
        rw [show up2 hl 58 39 x.2 58 39 = x.2 by rw [up2_s, vu_s], up2L_uu]
        refine wq_aload_n q245_66 rfl ?_
        refine wq_getR q245_67 rfl rfl rfl ?_
        refine wq_iconst q245_70 ?_
        refine wq_iload q245_71 rfl ?_
        refine wq_imul q245_73 ?_
        refine wq_iconst q245_74 ?_
        refine wq_iadd q245_75 ?_
        refine aI q245_76 rfl (iv1 e) (by show e * 2 + 1 < 12; omega) (by first | decide | omega) ?_
        rw [ecE]
        refine wq_icmp_ge q245_77 (fun c77 => ?_) (fun c77 => ?_)
        · have ed : deS ch e x = (x.1, nxX x.2) := by unfold deS; rw [if_neg hno, if_neg (Int32.not_lt.mpr c77)]
          rw [ed] at hx
          refine wq_iinc (ls' := [_, _, _, _, _, _, _]) q245_94 rfl rfl ?_
          refine wq_goto q245_97 ?_
          rw [nI_1]
          exact ih (e + 1) (x.1, nxX x.2) W (by omega) hw hk h33 hx
        · have ed : deS ch e x = (va_up x.1 28 (x.1 28 ||| (1 <<< (nI e &&& 31))), nxX x.2) := by unfold deS; rw [if_neg hno, if_pos (Int32.not_le.mp c77)]
          rw [ed] at hx
          refine wq_aload_n q245_80 rfl ?_
          refine wq_getR q245_81 rfl rfl rfl ?_
          refine wq_bipush q245_84 ?_
          refine wq_dup2 q245_86 rfl rfl ?_
          refine aI q245_87 rfl ((show (28 : Int32) = nI 28 from rfl)) (by decide) (by first | decide | omega) ?_
          rw [eW]
          refine wq_iconst q245_88 ?_
          refine wq_iload q245_89 rfl ?_
          refine wq_ishl q245_91 ?_
          refine wq_ior q245_92 ?_
          refine sI q245_93 rfl ((show (28 : Int32) = nI 28 from rfl)) (by decide) (by first | decide | omega) rfl ?_
          rw [hpS, up2_C, upC_s, upC_C]
          refine wq_iinc (ls' := [_, _, _, _, _, _, _]) q245_94 rfl rfl ?_
          refine wq_goto q245_97 ?_
          rw [nI_1]
          exact ih (e + 1) (va_up x.1 28 (x.1 28 ||| (1 <<< (nI e &&& 31))), nxX x.2) _ (by omega) (hw.see hn _) (hk.see hn _) (fun j hj => by rw [vu_o _ _ (by omega)]; exact h33 j hj) hx
/-- what happens behind the seeing: telling, and a change of the guards -/
theorem c_ryr_mid {N k : Nat} {sd : Int64} {x5 x6 : Option Value} {x : Int64} {gu : Int32} (hF : RF hi f lw sz n ev wi) (hn2 : 2 ≤ n) (hw : RW n row (hi 71)) (hk : KN n row (hi 71)) (hgu : hi 58 35 = gu)
    (K : ∀ hi' t' x5 x6, RNw 71 hi hi' → RW n (d3R hi f n wi gu (nxX x) (d2R hi f lw sz n ev wi row)) (hi' 71) → KN n (d3R hi f n wi gu (nxX x) (d2R hi f lw sz n ev wi row)) (hi' 71) → (∀ j, 33 ≤ j → hi' 71 j = hi 71 j) → wq G (0, 0) (d + 38) 245 163 [some (.ref 58), some (.int (nI N)), some (.long sd), none, some (.int (nI k)), some (.int x5), some (.int x6)] [] (0, 0) (HP hi' (up2 hl 58 39 (nxX x)) f dr t') Q) :
    wq G (0, 0) (d + 38) 245 100 [some (.ref 58), some (.int (nI N)), some (.long sd), none, some (.int (nI k)), x5, x6] [] (0, 0) (HP hi (up2 hl 58 39 x) f dr t) Q := by
  have hn := hF.2.1.1
  have hwi := hF.2.1.2.2.2.1
  have hb : canB hi f row n 2 (-1) (-1) = (decide (0 < hi 58 26) && decide (hi 71 29 = 0) && decide (hi 71 30 < hi 63 2)) := by
    unfold canB
    rw [if_neg (by decide), if_neg (by decide), if_pos rfl, hF.2.1.2.2.2.2.1, hF.2.2.1.1, show hi 71 29 = row 30 from hw.2.2.2.2.2.1, show hi 71 30 = row 31 from hw.2.2.2.2.2.2.1, hF.2.2.1.2.2.1 2 (by decide), Bool.and_assoc]
  have rest : ∀ (hi1 : Nat → Nat → Int32) (t1 : Nat) (x5 : Int32), RNw 71 hi hi1 → RW n (d2R hi f lw sz n ev wi row) (hi1 71) → KN n (d2R hi f lw sz n ev wi row) (hi1 71) → (∀ j, 33 ≤ j → hi1 71 j = hi 71 j) → wq G (0, 0) (d + 38) 245 125 [some (.ref 58), some (.int (nI N)), some (.long sd), none, some (.int (nI k)), some (.int x5), x6] [] (0, 0) (HP hi1 (up2 hl 58 39 x) f dr t1) Q := by
    intro hi1 t1 x5 hN hw1 hk1 h331
    have hF1 := hN.mv (Or.inl rfl) hF
    have hfl := hN.fl (Or.inl rfl) hF
    obtain ⟨s1, s2, s3⟩ := hw1.s hn hwi
    have eg : hI (HP hi1 (up2 hl 58 39 (nxX x)) f dr t1) 58 35 = gu := (hN.2 35 (by decide)).trans hgu
    refine wq_aload_n q245_125 rfl ?_
    refine wq_aload_n q245_126 rfl ?_
    refine wq_getR q245_127 rfl rfl rfl ?_
    refine cV (As := [_]) q245_130 m_213 rfl rfl rfl ⟨by decide, rfl⟩ rfl (c_rteller (Or.inl rfl) hn hF1.2.2.1.1 ((hF1.2.2.1.2.2.1 0 (by decide)).trans hF1.2.1.2.2.2.2.2.2) hw1 hwi ?_)
    rw [s2]
    refine wq_istore (ls' := [_, _, _, _, _, _, _]) q245_133 rfl ?_
    refine wq_aload_n q245_135 rfl ?_
    refine wq_bipush q245_136 ?_
    refine cV (As := [_]) q245_138 m_243 rfl rfl rfl ⟨by decide, rfl⟩ rfl (c_draw ?_)
    rw [show up2 hl 58 39 x 58 39 = x by rw [up2_s, vu_s], up2L_uu]
    refine wq_aload_n q245_141 rfl ?_
    refine wq_getI q245_142 rfl rfl ?_
    rw [eg]
    refine wq_icmp_ge q245_145 (fun c145 => ?_) (fun c145 => ?_)
    · have e3 : d3R hi f n wi gu (nxX x) (d2R hi f lw sz n ev wi row) = d2R hi f lw sz n ev wi row := by unfold d3R; rw [if_neg (Int32.not_lt.mpr c145)]
      rw [e3] at K
      exact K hi1 t1 _ _ hN hw1 hk1 h331
    · have e3 : d3R hi f n wi gu (nxX x) (d2R hi f lw sz n ev wi row) = swR (d2R hi f lw sz n ev wi row) n (nI (sOf (d2R hi f lw sz n ev wi row) wi)) (nI (wbR (fun p => hi (f + 2) (p * 5 + 1)) (sOf (d2R hi f lw sz n ev wi row) wi) n 0 (sOf (d2R hi f lw sz n ev wi row) wi))) := by unfold d3R; rw [if_pos (Int32.not_le.mp c145), s2]
      rw [e3] at K
      have hwb := wbR_lt (mr := fun p => hi (f + 2) (p * 5 + 1)) (te := sOf (d2R hi f lw sz n ev wi row) wi) (N := n) n 0 (sOf (d2R hi f lw sz n ev wi row) wi) (by omega) s1
      refine wq_aload_n q245_148 rfl ?_
      refine wq_getR q245_149 rfl rfl rfl ?_
      refine wq_iload q245_152 rfl ?_
      refine wq_aload_n q245_154 rfl ?_
      refine wq_iload q245_155 rfl ?_
      refine cV (As := [_]) q245_157 m_244 rfl rfl rfl ⟨by decide, rfl⟩ rfl (c_bestOther (mr := fun p => hi (f + 2) (p * 5 + 1)) hn hn2 hF1.2.2.1.1 s1 (fun p hp => by rw [hF1.2.2.1.2.2.2.1 _ (by omega), hfl.2.2.1]) ?_)
      refine cS' (As := [_, _, _]) q245_160 m_234 rfl rfl rfl (c_changes (Or.inl rfl) (by omega) (by omega) ?_)
      refine K _ t1 _ _ (hN.up (by decide) _) ?_ ?_ (fun j hj => ?_)
      · rw [upC_s]
        exact hw1.sw hn s1 hwb
      · rw [upC_s]
        exact hk1.sw hn
      · rw [upC_s, chW_o (by omega) (by omega)]
        exact h331 j hj
  refine wq_aload_n q245_100 rfl ?_
  refine wq_aload_n q245_101 rfl ?_
  refine wq_getR q245_102 rfl rfl rfl ?_
  refine cV (As := [_]) q245_105 m_231 rfl rfl rfl ⟨by decide, rfl⟩ rfl (c_rcanTell (Or.inl rfl) ?_)
  refine wq_if_eq q245_108 (fun c108 => ?_) (fun c108 => ?_)
  · have c := i01 c108
    rw [← hb] at c
    have e2 : d2R hi f lw sz n ev wi row = row := by unfold d2R; rw [if_neg (by rw [c]; decide)]
    refine wq_iconst q245_122 ?_
    refine wq_istore (ls' := [_, _, _, _, _, _, _]) q245_123 rfl ?_
    exact rest hi t 0 RNw.rf (by rw [e2]; exact hw) (by rw [e2]; exact hk) (fun _ _ => rfl)
  · have c := i10 c108
    rw [← hb] at c
    have e2 : d2R hi f lw sz n ev wi row = chg hi f lw sz n ev (sOf row) wi row 2 (-1) (-1) := by unfold d2R; rw [if_pos c]
    refine wq_aload_n q245_111 rfl ?_
    refine wq_aload_n q245_112 rfl ?_
    refine wq_getR q245_113 rfl rfl rfl ?_
    refine cV (As := [_]) q245_116 m_220 rfl rfl rfl ⟨by decide, rfl⟩ rfl (c_rtells (d := d + 1) hF (Or.inl rfl) hw hk (fun hi' t' hN hw' hk' h33' => ?_))
    refine wq_goto q245_119 ?_
    refine wq_istore (ls' := [_, _, _, _, _, _, _]) q245_123 rfl ?_
    exact rest hi' t' _ hN (by rw [e2]; exact hw') (by rw [e2]; exact hk') h33'
theorem ddR_congr {gu : Int32} {y : (Nat → Int32) × Int64} (h : FLs f lw hi hi') : ddR hi' f lw sz n ev wi gu y = ddR hi f lw sz n ev wi gu y := by
  unfold ddR d3R d2R
  rw [h.2.2.1, h.2.2.2.1]
  simp only [canB_congr h, chg_congr h]
theorem c_ryears_loop {N : Nat} {sd : Int64} {gu : Int32} (hN60 : N ≤ 60) (hn2 : 2 ≤ n) : ∀ (m k : Nat) (hi : Nat → Nat → Int32) (row : Nat → Int32) (x : Int64) (t a lg : Nat) (x5 x6 : Option Value), k + m = N → RF hi f lw sz n ev wi → hi 58 35 = gu → RW n row (hi 71) → KN n row (hi 71) → a ≤ 40 → hi 58 38 = nI a → lg ≤ 60 → hi 71 33 = nI lg → (∀ hi' t' x', RYr f lw sz n ev wi gu m row x hi hi' → Q (some (.int (hi' 71 32))) (HP hi' (up2 hl 58 39 x') f dr t')) →
    wq G (0, 0) (d + 38) 245 23 [some (.ref 58), some (.int (nI N)), some (.long sd), none, some (.int (nI k)), x5, x6] [] (0, 0) (HP hi (up2 hl 58 39 x) f dr t) Q := by
  intro m
  induction m with
  | zero =>
    intro k hi row x t a lg x5 x6 hm hF hgu hw hk ha h38 hlg h33 hQ
    obtain rfl : k = N := by omega
    refine wq_iload q245_23 rfl ?_
    refine wq_iload_n q245_25 rfl ?_
    refine wq_icmp_ge q245_26 (fun c26 => ?_) (fun c26 => ?_)
    · refine wq_aload_n q245_177 rfl ?_
      refine wq_getR q245_178 rfl rfl rfl ?_
      refine wq_bipush q245_181 ?_
      refine aI q245_183 rfl ((show (32 : Int32) = nI 32 from rfl)) (by decide) (by first | decide | omega) ?_
      refine rI q245_184 rfl ?_
      exact hQ hi t x rfl
    · exact absurd (nI_le (Nat.le_refl _) (by omega)) c26
  | succ m ih =>
    intro k hi row x t a lg x5 x6 hm hF hgu hw hk ha h38 hlg h33 hQ
    have hn := hF.2.1.1
    have hev := hF.2.1.2.2.1
    refine wq_iload q245_23 rfl ?_
    refine wq_iload_n q245_25 rfl ?_
    refine wq_icmp_ge q245_26 (fun c26 => ?_) (fun c26 => ?_)
    · rw [nI_leI (by omega) (by omega)] at c26
      omega
    · refine wq_aload_n q245_29 rfl ?_
      refine cV (As := []) q245_30 m_228 rfl rfl rfl ⟨by decide, rfl⟩ rfl (c_remember ha h38 (fun U' hU => ?_))
      have hra : RaF hi (upC (up2 hi 58 38 (nI (min (a + 1) 40))) 74 U') := ra_rem _ U'
      obtain ⟨h1, eh1⟩ : ∃ h1, h1 = upC (up2 hi 58 38 (nI (min (a + 1) 40))) 74 U' := ⟨_, rfl⟩
      rw [← eh1] at hra ⊢
      have e71 : h1 71 = hi 71 := by rw [eh1]; rfl
      have k35 : h1 58 35 = gu := by rw [eh1]; exact hgu
      have hF1 := hra.mv hF
      have hfl := hra.fl hF
      refine wq_iconst q245_33 ?_
      refine wq_istore (ls' := [_, _, _, _, _, _, _]) q245_34 rfl ?_
      rw [← upC_self h1 71 rfl]
      refine c_ryr_ev (row := row) (hl := up2 hl 58 39 x) (ch := fun e => hi (f + 3) (e * 2 + 1)) hn hF1.2.2.1.2.1 hev (fun e he => by rw [hF1.2.2.1.2.2.2.2 _ (by omega), hfl.2.2.2.1]) (fun y W x5 hwW hkW h33W hy => ?_) ev 0 (row, up2 hl 58 39 x 58 39) (h1 71) (by omega) (by rw [e71]; exact hw) (by rw [e71]; exact hk) (fun _ _ => rfl) rfl
      rw [show up2 hl 58 39 x 58 39 = x by rw [up2_s, vu_s]] at hy
      rw [up2L_uu]
      have hN1 : RNw 71 h1 (upC h1 71 W) := RNw.rf.up (by decide) W
      have hflW := hN1.fl (Or.inl rfl) hF1
      refine c_ryr_mid (row := y.1) (gu := gu) (hN1.mv (Or.inl rfl) hF1) hn2 (by rw [upC_s]; exact hwW) (by rw [upC_s]; exact hkW) k35 (fun hi2 t2 x5 x6 hN2 hw2 hk2 h332 => ?_)
      have e3 : d3R (upC h1 71 W) f n wi gu (nxX y.2) (d2R (upC h1 71 W) f lw sz n ev wi y.1) = (ddR hi f lw sz n ev wi gu (row, x)).1 := by
        rw [← ddR_congr hfl, ← ddR_congr hflW]
        unfold ddR
        rw [hflW.2.2.2.1, hfl.2.2.2.1, ← hy]
      have e4 : nxX y.2 = (ddR hi f lw sz n ev wi gu (row, x)).2 := by unfold ddR; rw [← hy]
      rw [e3] at hw2 hk2
      rw [e4]
      have hN3 := hN1.tr hN2
      have hF3 := hN3.mv (Or.inl rfl) hF1
      have h33m : ∀ j, 33 ≤ j → hi2 71 j = hi 71 j := fun j hj => by rw [h332 j hj, upC_s, h33W j hj, e71]
      refine wq_aload_n q245_163 rfl ?_
      refine wq_aload_n q245_164 rfl ?_
      refine wq_getR q245_165 rfl rfl rfl ?_
      refine cV (As := [_]) q245_168 m_221 rfl rfl rfl ⟨by decide, rfl⟩ rfl (c_darkens (Or.inl rfl) hn hF3.2.2.1.1 hlg ((h33m 33 (Nat.le_refl _)).trans h33) (fun W' hd => ?_))
      have hrap : RaP a hi (upC hi2 71 W') := by
        have := hN3.up (by decide) W'
        rw [eh1] at this
        exact RaP.of RaF.rf rfl rfl hU this
      have hst : RStep n a (ddR hi f lw sz n ev wi gu (row, x)).1 true hi (upC hi2 71 W') := ⟨hrap, fun z => absurd z (by decide), fun _ => ⟨hi2 71, lg, hw2, hk2, h33m, h33, hlg, by rw [upC_s]; exact hd⟩⟩
      have hd2 := hw2.dark hn hd
      refine wq_iinc (ls' := [_, _, _, _, _, _, _]) q245_171 rfl rfl ?_
      refine wq_goto q245_174 ?_
      rw [nI_1]
      refine ih (k + 1) _ (edR (ddR hi f lw sz n ev wi gu (row, x)).1) _ t2 (min (a + 1) 40) (min (lg + 1) 60) _ _ (by omega) (hrap.1.mv hF) ((hrap.1.2 35 (by decide) (by decide) (by decide)).trans hgu) (by rw [upC_s]; exact hd2.1) (by rw [upC_s]; exact hd2.2) (by omega) hrap.2.1 (by omega) (by rw [upC_s]; exact hd.2.2.2.2.2.2.1) (fun hi' t' x' hh => hQ hi' t' x' ⟨_, a, h38, ha, hst, hh⟩)
theorem c_ryears {x : Int32} {sd : Int64} {gu : Int32} (hF : RF hi f lw sz n ev wi) (hn2 : 2 ≤ n) (hgu : hi 58 35 = gu) (hw : RW n row (hi 71)) (hk : KN n row (hi 71)) (ha : a ≤ 40) (h38 : hi 58 38 = nI a) (hlg : lg ≤ 60) (h33 : hi 71 33 = nI lg)
    (h0 : spB' (nI n) (row 32) x = false → Q (some (.int (-1))) (HP (up2 hi 58 0 0) hl f dr t))
    (h1 : ∀ N, x = nI N → N ≤ 60 → spB' (nI n) (row 32) x = true → ∀ hi' t' x', RYr f lw sz n ev wi gu N row sd (up2 hi 58 0 0) hi' → Q (some (.int (hi' 71 32))) (HP hi' (up2 hl 58 39 x') f dr t')) :
    Ct G (0, 0) (d + 38) 245 [.ref 58, .int x, .long sd] (HP hi hl f dr t) Q := by
  have e26 : up2 hi 58 0 0 58 26 = nI n := hF.2.2.1.1
  have e32 : up2 hi 58 0 0 71 32 = row 32 := hw.2.2.2.2.2.2.2.2
  refine Ct_of (ls := [_, _, _, _, _, _, _]) m_245.1.2.2.1 (Nat.le_of_ble_eq_true rfl) rfl ?_
  refine wq_aload_n q245_0 rfl ?_
  refine wq_iconst q245_1 ?_
  refine wq_putI q245_2 rfl rfl rfl rfl ?_
  rw [hpS]
  refine wq_aload_n q245_5 rfl ?_
  refine wq_iload_n q245_6 rfl ?_
  refine cV (As := [_]) q245_7 m_241 rfl rfl rfl ⟨by decide, rfl⟩ rfl (c_mayPass ?_)
  refine wq_if_ne q245_10 (fun c10 => ?_) (fun c10 => ?_)
  · have c := i10 c10
    rw [e26, e32] at c
    have c2 := c
    unfold spB' at c2
    simp only [Bool.and_eq_true, decide_eq_true_eq] at c2
    obtain ⟨N, hN⟩ : ∃ N, N ≤ 60 ∧ x = nI N := nI_of2 (M := 60) (n := 60) rfl (fun z => by
      have h1 := c2.1.1.2
      rw [Int32.le_iff_toInt_le] at h1
      rw [Int32.lt_iff_toInt_lt] at z
      rw [show (1 : Int32).toInt = 1 from rfl] at h1
      rw [show (0 : Int32).toInt = 0 from rfl] at z
      omega) c2.1.2
    obtain ⟨hN60, rfl⟩ := hN
    refine wq_aload_n q245_15 rfl ?_
    refine wq_lload_n q245_16 rfl ?_
    refine wq_putL q245_17 rfl rfl ?_
    rw [hpL]
    refine wq_iconst q245_20 ?_
    refine wq_istore (ls' := [_, _, _, _, _, _, _]) q245_21 rfl ?_
    exact c_ryears_loop hN60 hn2 N 0 _ row sd t a lg _ _ (by omega) ((ra_thrown 0).mv hF) hgu hw hk ha h38 hlg h33 (fun hi' t' x' hh => h1 N rfl hN60 c hi' t' x' hh)
  · have c := i01 c10
    rw [e26, e32] at c
    refine wq_iconst q245_13 ?_
    refine rI q245_14 rfl ?_
    exact h0 c
end REFYEARS
