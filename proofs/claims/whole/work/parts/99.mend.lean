/-! FOUR CONTRACTS ONCE MORE, with their first cases said sharper -/
section MEND
variable {G : ph_G} {d f dr t n r ev wi sz lg a : Nat} {hi hi' : Nat → Nat → Int32} {hl : Nat → Nat → Int64} {Q : Option Value → ph_H → Prop} {row : Nat → Int32} {lw : Option Nat}
theorem c_mirrorB {ev wi nx kp dy : Nat} {s : Nat → Nat} {p b : Int32} (hk : OwK hi f lw sz n ev wi nx kp dy s)
    (h0 : ¬ (inB p (hi f 3) = true ∧ 0 ≤ b ∧ b < 1 <<< (hi f 4 &&& 31) ∧ ∀ j, j < n → p = nI j → ¬ hi 39 (14 + j) = b) → Q (some (.int 0)) (HP hi hl f dr t))
    (h1 : ∀ j, p = nI j → j < n → inB p (hi f 3) = true → 0 ≤ b → b < 1 <<< (hi f 4 &&& 31) → ¬ hi 39 (14 + j) = b → ∀ hi', actP hi (va_up (hi 39) (14 + j) b) false nx kp dy hi' → Q (some (.int 1)) (HP hi' hl f dr t)) : Ct G (0, 0) (d + 2) 112 [.ref 0, .int p, .int b] (HP hi hl f dr t) Q := by
  obtain ⟨hf, hw, hlw, hfk, hsit, ⟨ha1, ha2, ha3, ha4⟩, hd1, hd2⟩ := hk
  obtain ⟨f1, -⟩ := hf.frt hi hl f dr t
  have hs : Sok 38 39 := Or.inl ⟨rfl, rfl⟩
  refine Ct_of (ls := [_, _, _]) m_112.1.2.2.1 (Nat.le_of_ble_eq_true rfl) rfl ?_
  refine wq_aload_n q112_0 rfl ?_
  refine wq_iload_n q112_1 rfl ?_
  refine cV (As := [_]) q112_2 m_103 rfl rfl rfl ⟨by decide, rfl⟩ rfl (c_isPrisoner hf ?_)
  refine wq_if_eq q112_5 (fun c5 => ?_) (fun c5 => ?_)
  · have hb := i01 c5
    refine wq_iconst q112_25 ?_
    refine rI q112_26 rfl ?_
    exact h0 (fun z => by rw [z.1] at hb; cases hb)
  · have hb := i10 c5
    obtain ⟨j, hj, rfl⟩ : ∃ j, j < n ∧ p = nI j := by
      have h2 : ¬ p < 0 ∧ p < nI n := by
        rw [hfk.2.2.2.2.1] at hb
        simp [inB] at hb
        exact ⟨Int32.not_lt.mpr hb.1, hb.2⟩
      obtain ⟨j, hj, rfl⟩ := nI_of h2.1
      exact ⟨j, (nI_ltI hj (by have := hfk.1; omega)).mp h2.2, rfl⟩
    have hn := hfk.1
    refine wq_iload_n q112_8 rfl ?_
    refine wq_if_lt q112_9 (fun c9 => ?_) (fun c9 => ?_)
    · refine wq_iconst q112_25 ?_
      refine rI q112_26 rfl ?_
      exact h0 (fun z => absurd z.2.1 (Int32.not_le.mpr c9))
    · refine wq_iload_n q112_12 rfl ?_
      refine wq_iconst q112_13 ?_
      refine wq_aload_n q112_14 rfl ?_
      refine wq_getR q112_15 (by first | exact f1 | rfl) rfl (by first | exact f1 | rfl) ?_
      refine wq_getI q112_18 (by first | exact f1 | rfl) rfl ?_
      refine wq_ishl q112_21 ?_
      refine wq_icmp_lt q112_22 (fun c22 => ?_) (fun c22 => ?_)
      · refine wq_aload_n q112_27 rfl ?_
        refine wq_getR q112_28 rfl rfl rfl ?_
        refine wq_getR q112_31 rfl rfl rfl ?_
        refine wq_bipush q112_34 ?_
        refine wq_iload_n q112_36 rfl ?_
        refine wq_iadd q112_37 ?_
        refine aI q112_38 rfl (nI_add 14 _) (by show 14 + j < 33; omega) (by first | decide | omega) ?_
        refine wq_iload_n q112_39 rfl ?_
        refine wq_icmp_ne q112_40 (fun c40 => ?_) (fun c40 => ?_)
        · refine wq_aload_n q112_45 rfl ?_
          refine wq_getR q112_46 rfl rfl rfl ?_
          refine wq_aload_n q112_49 rfl ?_
          refine wq_getR q112_50 rfl rfl rfl ?_
          refine cV (As := [_]) q112_53 m_2 rfl rfl rfl ⟨by decide, rfl⟩ rfl (c_keep (a := 38) (r := 39) (hs.scn _ _ _ _ _) ha1 ha2 ha3 ha4 ?_)
          have ek := keA_same (hi := hi) nx kp
          refine wq_aload_n q112_56 rfl ?_
          refine wq_getR q112_57 rfl rfl rfl ?_
          refine wq_getR q112_60 rfl rfl rfl ?_
          refine wq_bipush q112_63 ?_
          refine wq_iload_n q112_65 rfl ?_
          refine wq_iadd q112_66 ?_
          refine wq_iload_n q112_67 rfl ?_
          refine sI q112_68 rfl (nI_add 14 _) (by show 14 + j < 33; omega) (by first | decide | omega) rfl ?_
          refine wq_iconst q112_69 ?_
          refine rI q112_70 rfl ?_
          refine h1 j rfl hj hb (Int32.not_lt.mp c9) c22 c40 _ ⟨?_, ?_, ?_, ?_, ?_⟩
          · show va_up (keA hi 39 nx kp 39) (14 + j) b = _
            rw [ek 39 (by decide)]
          · show up2 (up2 (up2 (upC hi 49 _) 48 1 _) 48 2 _) 39 _ _ 49 = _
            rw [up2_o _ _ _ (by decide), up2_o _ _ _ (by decide), up2_o _ _ _ (by decide), upC_s]
          · rfl
          · exact ek 45 (by decide)
          · intro b' hb'
            show up2 (keA hi 39 nx kp) 39 (14 + j) b b' = _
            rw [up2_o _ _ _ (fun z => hb' (by rw [z]; decide))]
            exact ek b' (fun z => hb' ((show ∀ x ∈ (48 :: 49 :: []), x ∈ (45 :: 48 :: 49 :: 52 :: 39 :: scr0) by decide) b' z))
        · refine wq_iconst q112_43 ?_
          refine rI q112_44 rfl ?_
          exact h0 (fun z => z.2.2.2 j hj rfl c40)
      · refine wq_iconst q112_25 ?_
        refine rI q112_26 rfl ?_
        exact h0 (fun z => c22 z.2.2.1)
theorem c_rmirrorB {x b : Int32} (hF : RF hi f lw sz n ev wi) (hw : RW n row (hi 71)) (hk : KN n row (hi 71)) (ha : a ≤ 40) (h38 : hi 58 38 = nI a)
    (h0 : ¬ (inB x (nI n) = true ∧ 0 ≤ b ∧ b < 1 <<< (nI ev &&& 31) ∧ ∀ j, j < n → x = nI j → ¬ row (14 + j) = b) → Q (some (.int 0)) (HP (up2 hi 58 0 0) hl f dr t))
    (h1 : ∀ j, x = nI j → j < n → 0 ≤ b → b < 1 <<< (nI ev &&& 31) → ¬ row (14 + j) = b → ∀ hi' t', RStep n a (va_up row (14 + j) b) false hi hi' → Q (some (.int 1)) (HP hi' hl f dr t')) :
    Ct G (0, 0) (d + 2) 236 [.ref 58, .int x, .int b] (HP hi hl f dr t) Q := by
  have hn := hF.2.1.1
  have e26 : up2 hi 58 0 0 58 26 = nI n := hF.2.2.1.1
  have e27 : hI (HP (up2 hi 58 0 0) hl f dr t) 58 27 = nI ev := hF.2.2.1.2.1
  refine Ct_of (ls := [_, _, _]) m_236.1.2.2.1 (Nat.le_of_ble_eq_true rfl) rfl ?_
  refine wq_aload_n q236_0 rfl ?_
  refine wq_iconst q236_1 ?_
  refine wq_putI q236_2 rfl rfl rfl rfl ?_
  rw [hpS]
  refine wq_aload_n q236_5 rfl ?_
  refine wq_iload_n q236_6 rfl ?_
  refine cV (As := [_]) q236_7 m_209 rfl rfl rfl ⟨by decide, rfl⟩ rfl (c_risPrisoner ?_)
  refine wq_if_eq q236_10 (fun c10 => ?_) (fun c10 => ?_)
  · have c := i01 c10
    rw [e26] at c
    refine wq_iconst q236_41 ?_
    refine rI q236_42 rfl ?_
    exact h0 (fun z => by rw [z.1] at c; cases c)
  · have c := i10 c10
    rw [e26] at c
    obtain ⟨p, hp, rfl⟩ := inB_N (m := n) (by omega) c
    refine wq_iload_n q236_13 rfl ?_
    refine wq_if_lt q236_14 (fun c14 => ?_) (fun c14 => ?_)
    · refine wq_iconst q236_41 ?_
      refine rI q236_42 rfl ?_
      exact h0 (fun z => absurd z.2.1 (Int32.not_le.mpr c14))
    · refine wq_iload_n q236_17 rfl ?_
      refine wq_iconst q236_18 ?_
      refine wq_aload_n q236_19 rfl ?_
      refine wq_getI q236_20 rfl rfl ?_
      refine wq_ishl q236_23 ?_
      refine wq_icmp_ge q236_24 (fun c24 => ?_) (fun c24 => ?_)
      · rw [e27] at c24
        refine wq_iconst q236_41 ?_
        refine rI q236_42 rfl ?_
        exact h0 (fun z => absurd z.2.2.1 (Int32.not_lt.mpr c24))
      · rw [e27] at c24
        have e3 : hI (HP (up2 hi 58 0 0) hl f dr t) 71 (4 * p + 3) = row (14 + p) := hw.2.2.2.1 p hp
        refine wq_aload_n q236_27 rfl ?_
        refine wq_getR q236_28 rfl rfl rfl ?_
        refine wq_iconst q236_31 ?_
        refine wq_iload_n q236_32 rfl ?_
        refine wq_imul q236_33 ?_
        refine wq_iconst q236_34 ?_
        refine wq_iadd q236_35 ?_
        refine aI q236_36 rfl (ix3 p) (by show 4 * p + 3 < 214; omega) (by first | decide | omega) ?_
        rw [e3]
        refine wq_iload_n q236_37 rfl ?_
        refine wq_icmp_ne q236_38 (fun c38 => ?_) (fun c38 => ?_)
        · refine wq_aload_n q236_43 rfl ?_
          refine cV (As := []) q236_44 m_228 rfl rfl rfl ⟨by decide, rfl⟩ rfl (c_remember ha h38 (fun U' hU => ?_))
          refine wq_aload_n q236_47 rfl ?_
          refine wq_getR q236_48 rfl rfl rfl ?_
          refine wq_iconst q236_51 ?_
          refine wq_iload_n q236_52 rfl ?_
          refine wq_imul q236_53 ?_
          refine wq_iconst q236_54 ?_
          refine wq_iadd q236_55 ?_
          refine wq_iload_n q236_56 rfl ?_
          refine sI q236_57 rfl (ix3 p) (by show 4 * p + 3 < 214; omega) (by first | decide | omega) rfl ?_
          rw [hpS, up2_C]
          refine wq_iconst q236_58 ?_
          refine rI q236_59 rfl ?_
          refine h1 p rfl hp (Int32.not_lt.mp c14) (Int32.not_le.mp c24) c38 _ t ⟨RaP.of (ra_thrown 0) rfl rfl hU (RNw.rf.up (by decide) _), fun _ => ⟨?_, fun q hq => ?_, fun j hj => ?_⟩, fun z => absurd z (by decide)⟩
          · rw [upC_s]
            exact hw.mirr hn hp _
          · rw [upC_s, vu_o _ _ (by omega), vu_o _ _ (by omega)]
            exact hk q hq
          · rw [upC_s, vu_o _ _ (by omega)]
            rfl
        · refine wq_iconst q236_41 ?_
          refine rI q236_42 rfl ?_
          exact h0 (fun z => z.2.2.2 p hp rfl c38)
theorem c_stepB {x i w : Int32} {pc' : Nat} (hpc : hi 0 7 = nI pc') (hpc4 : pc' ≤ 4) (hst : ∀ k, k < pc' → ∃ st P, PlK hi k st P)
    (h0 : ¬ (inB x (hi 0 7) = true ∧ (∀ k, k < pc' → x = nI k → inB i (hi (16 + 5 * k) 1) = true) ∧ inB w 3 = true) → Q (some (.int (-1000000))) (HP hi hl f dr t))
    (h1 : ∀ k j v, k < pc' → j < 16 → x = nI k → i = nI j → w = nI v → v < 3 → inB i (hi (16 + 5 * k) 1) = true → Q (some (.int (hi (17 + 5 * k) (j * 3 + v)))) (HP hi hl f dr t)) : Ct G (0, 0) (d + 1) 126 [.ref 0, .int x, .int i, .int w] (HP hi hl f dr t) Q := by
  refine Ct_of (ls := [_, _, _, _]) m_126.1.2.2.1 (Nat.le_of_ble_eq_true rfl) rfl ?_
  refine wq_aload_n q126_0 rfl ?_
  refine wq_iload_n q126_1 rfl ?_
  refine cV (As := [_]) q126_2 m_129 rfl rfl rfl ⟨by decide, rfl⟩ rfl (c_isPlan ?_)
  refine wq_if_eq q126_5 (fun c5 => ?_) (fun c5 => ?_)
  · have c := i01 c5
    refine wq_ldc q126_34 ?_
    refine rI q126_36 rfl ?_
    exact h0 (fun z => by rw [c] at z; cases z.1)
  · have c := i10 c5
    rw [hpc] at c
    obtain ⟨k, hk, rfl⟩ := inB_N (m := pc') (by omega) c
    obtain ⟨st, P, hp⟩ := hst k hk
    obtain ⟨p1, p2, p3, p4⟩ := Pk_s hp.1 hi hl f dr t
    refine wq_iload_n q126_8 rfl ?_
    refine wq_if_lt q126_9 (fun c9 => ?_) (fun c9 => ?_)
    · refine wq_ldc q126_34 ?_
      refine rI q126_36 rfl ?_
      exact h0 (fun z => by have := z.2.1 k hk rfl; rw [inB_f1 c9] at this; cases this)
    · refine wq_iload_n q126_12 rfl ?_
      refine wq_aload_n q126_13 rfl ?_
      refine wq_getR q126_14 (by first | exact p1 | exact p4 | rfl) rfl (by first | exact p1 | exact p4 | rfl) ?_
      refine wq_iload_n q126_17 rfl ?_
      refine aA q126_18 (by first | exact p1 | exact p4 | rfl) (by omega) (rfl) (by show k < 5; omega) (by first | decide | omega) (by first | exact p1 | exact p4 | rfl) ?_
      refine wq_getI q126_19 (by first | exact p1 | exact p4 | rfl) rfl ?_
      refine wq_icmp_ge q126_22 (fun c22 => ?_) (fun c22 => ?_)
      · refine wq_ldc q126_34 ?_
        refine rI q126_36 rfl ?_
        exact h0 (fun z => by have := z.2.1 k hk rfl; rw [inB_f2 (show hi (16 + 5 * k) 1 ≤ i from c22)] at this; cases this)
      · have ci : inB i (hi (16 + 5 * k) 1) = true := inB_t c9 c22
        refine wq_iload_n q126_25 rfl ?_
        refine wq_if_lt q126_26 (fun c26 => ?_) (fun c26 => ?_)
        · refine wq_ldc q126_34 ?_
          refine rI q126_36 rfl ?_
          exact h0 (fun z => by have := z.2.2; rw [inB_f1 c26] at this; cases this)
        · refine wq_iload_n q126_29 rfl ?_
          refine wq_iconst q126_30 ?_
          refine wq_icmp_lt q126_31 (fun c31 => ?_) (fun c31 => ?_)
          · have ci' := ci
            rw [hp.2.2.1] at ci'
            obtain ⟨j, hj, rfl⟩ := inB_N (m := st) (by have := hp.2.1; omega) ci'
            obtain ⟨v, hv, rfl⟩ := inB_N (m := 3) (by decide) (inB_t c26 (Int32.not_le.mpr c31))
            refine wq_aload_n q126_37 rfl ?_
            refine wq_getR q126_38 (by first | exact p1 | exact p4 | rfl) rfl (by first | exact p1 | exact p4 | rfl) ?_
            refine wq_iload_n q126_41 rfl ?_
            refine aA q126_42 (by first | exact p1 | exact p4 | rfl) (by omega) (rfl) (by show k < 5; omega) (by first | decide | omega) (by first | exact p1 | exact p4 | rfl) ?_
            refine wq_iload_n q126_43 rfl ?_
            refine wq_iload_n q126_44 rfl ?_
            refine cV (As := [_, _]) q126_45 m_52 rfl rfl (by first | exact p1 | exact p4 | rfl) ⟨by decide, rfl⟩ rfl (c_partP hp (by have := hp.2.1; omega) hv ?_)
            refine rI q126_48 rfl ?_
            have := h1 k j v hk (by have := hp.2.1; omega) rfl rfl rfl hv ci
            rw [hp.2.2.2] at this
            exact this
          · refine wq_ldc q126_34 ?_
            refine rI q126_36 rfl ?_
            exact h0 (fun z => by have := z.2.2; rw [inB_f2 (Int32.not_lt.mp c31)] at this; cases this)
theorem c_rstepB {x i w : Int32} {pc' : Nat} (hpc : hi 58 30 = nI pc') (hpc4 : pc' ≤ 4) (hpl : ∀ k, k < pc' → ∃ st P, PlR hi k st P)
    (h0 : ¬ (inB x (nI pc') = true ∧ (∀ k, k < pc' → x = nI k → inB i (hi 70 k) = true) ∧ inB w 3 = true) → Q (some (.int (-1000000))) (HP (up2 hi 58 0 0) hl f dr t))
    (h1 : ∀ k j v, k < pc' → j < 16 → x = nI k → i = nI j → w = nI v → v < 3 → inB i (hi 70 k) = true → Q (some (.int (hi 69 (48 * k + (j * 3 + v))))) (HP (up2 hi 58 0 0) hl f dr t)) : Ct G (0, 0) (d + 1) 249 [.ref 58, .int x, .int i, .int w] (HP hi hl f dr t) Q := by
  have e30 : up2 hi 58 0 0 58 30 = nI pc' := hpc
  refine Ct_of (ls := [_, _, _, _]) m_249.1.2.2.1 (Nat.le_of_ble_eq_true rfl) rfl ?_
  refine wq_aload_n q249_0 rfl ?_
  refine wq_iconst q249_1 ?_
  refine wq_putI q249_2 rfl rfl rfl rfl ?_
  rw [hpS]
  refine wq_aload_n q249_5 rfl ?_
  refine wq_iload_n q249_6 rfl ?_
  refine cV (As := [_]) q249_7 m_248 rfl rfl rfl ⟨by decide, rfl⟩ rfl (c_risPlan ?_)
  refine wq_if_eq q249_10 (fun c10 => ?_) (fun c10 => ?_)
  · have c := i01 c10
    rw [e30] at c
    refine wq_ldc_w q249_61 ?_
    refine rI q249_64 rfl ?_
    exact h0 (fun z => by rw [z.1] at c; cases c)
  · have c := i10 c10
    rw [e30] at c
    obtain ⟨k, hk, rfl⟩ := inB_N (m := pc') (by omega) c
    obtain ⟨st, P, hk4, hst, e70, hP, -⟩ := hpl k hk
    have e70' : hI (HP (up2 hi 58 0 0) hl f dr t) 70 k = nI st := e70
    refine wq_iload_n q249_13 rfl ?_
    refine wq_i2l q249_14 ?_
    refine wq_lconst q249_15 ?_
    refine wq_aload_n q249_16 rfl ?_
    refine wq_getR q249_17 rfl rfl rfl ?_
    refine wq_iload_n q249_20 rfl ?_
    refine aI q249_21 rfl (rfl) (by show k < 5; omega) (by first | decide | omega) ?_
    rw [e70']
    refine wq_iconst q249_22 ?_
    refine wq_isub q249_23 ?_
    refine wq_i2l q249_24 ?_
    refine cS' (As := [_, _, _]) q249_25 m_170 rfl rfl rfl (c_isIn ?_)
    refine wq_if_eq q249_28 (fun c28 => ?_) (fun c28 => ?_)
    · have ci := i01 c28
      rw [iiB_lg (by omega)] at ci
      refine wq_ldc_w q249_61 ?_
      refine rI q249_64 rfl ?_
      exact h0 (fun z => by have := z.2.1 k hk rfl; rw [e70, ci] at this; cases this)
    · have ci := i10 c28
      rw [iiB_lg (by omega)] at ci
      refine wq_iload_n q249_31 rfl ?_
      refine wq_i2l q249_32 ?_
      refine wq_lconst q249_33 ?_
      refine wq_ldc2_w q249_34 ?_
      refine cS' (As := [_, _, _]) q249_37 m_170 rfl rfl rfl (c_isIn ?_)
      refine wq_if_eq q249_40 (fun c40 => ?_) (fun c40 => ?_)
      · have cw := i01 c40
        rw [iiB_3] at cw
        refine wq_ldc_w q249_61 ?_
        refine rI q249_64 rfl ?_
        exact h0 (fun z => by rw [z.2.2] at cw; cases cw)
      · have cw := i10 c40
        rw [iiB_3] at cw
        obtain ⟨v, hv, rfl⟩ := inB_N (m := 3) (by omega) cw
        have ci' := ci
        obtain ⟨j, hj, rfl⟩ := inB_N (m := st) (by omega) ci
        refine wq_aload_n q249_43 rfl ?_
        refine wq_getR q249_44 rfl rfl rfl ?_
        refine wq_iconst q249_47 ?_
        refine wq_bipush q249_48 ?_
        refine wq_iload_n q249_50 rfl ?_
        refine wq_imul q249_51 ?_
        refine wq_iload_n q249_52 rfl ?_
        refine wq_iadd q249_53 ?_
        refine wq_imul q249_54 ?_
        refine wq_iload_n q249_55 rfl ?_
        refine wq_iadd q249_56 ?_
        refine aI q249_57 rfl ((by rw [q_ix, nI_add, Nat.add_assoc])) (by show 48 * k + (j * 3 + v) < 240; omega) (by first | decide | omega) ?_
        refine wq_goto q249_58 ?_
        refine rI q249_64 rfl ?_
        exact h1 k j v hk (by omega) rfl rfl rfl hv (by rw [e70]; exact ci')
theorem c_rescapeB {set x : Int32} (hF : RF hi f lw sz n ev wi) (hw : RW n row (hi 71)) (h0 : ¬ (inB x (nI ev) = true ∧ 0 ≤ set ∧ set < 1 <<< (nI n &&& 31)) → Q (some (.int (-1))) (HP (up2 hi 58 0 0) hl f dr t))
    (h1 : ∀ v hi' t', v < ev → x = nI v → 0 ≤ set → set < 1 <<< (nI n &&& 31) → RS hi hi' → Q (some (.int (escR (heV hi f lw sz n v row) row set n 0 (-1, 8)).1)) (HP hi' hl f dr t')) : Ct G (0, 0) (d + 36) 276 [.ref 58, .int set, .int x] (HP hi hl f dr t) Q := by
  have hn := hF.2.1.1
  have hn1 := hF.2.1.2.1
  have hev := hF.2.1.2.2.1
  have hr0 : RS hi (up2 hi 58 0 0) := RS.upK (by decide) _
  have e27 : up2 hi 58 0 0 58 27 = nI ev := hF.2.2.1.2.1
  have e26 : hI (HP (up2 hi 58 0 0) hl f dr t) 58 26 = nI n := hF.2.2.1.1
  refine Ct_of (ls := [_, _, _, _, _, _, _, _, _]) m_276.1.2.2.1 (Nat.le_of_ble_eq_true rfl) rfl ?_
  refine wq_aload_n q276_0 rfl ?_
  refine wq_iconst q276_1 ?_
  refine wq_putI q276_2 rfl rfl rfl rfl ?_
  rw [hpS]
  refine wq_aload_n q276_5 rfl ?_
  refine wq_getI q276_6 rfl rfl ?_
  refine wq_if_eq q276_9 (fun c9 => ?_) (fun c9 => ?_)
  · rw [e26] at c9
    exact absurd c9 (nI_ne0 (by omega) (by omega))
  · refine wq_iload_n q276_12 rfl ?_
    refine wq_if_lt q276_13 (fun c13 => ?_) (fun c13 => ?_)
    · refine wq_iconst q276_34 ?_
      refine rI q276_35 rfl ?_
      exact h0 (fun z => absurd z.2.1 (Int32.not_le.mpr c13))
    · refine wq_iload_n q276_16 rfl ?_
      refine wq_iconst q276_17 ?_
      refine wq_aload_n q276_18 rfl ?_
      refine wq_getI q276_19 rfl rfl ?_
      refine wq_ishl q276_22 ?_
      refine wq_icmp_ge q276_23 (fun c23 => ?_) (fun c23 => ?_)
      · rw [e26] at c23
        refine wq_iconst q276_34 ?_
        refine rI q276_35 rfl ?_
        exact h0 (fun z => absurd z.2.2 (Int32.not_lt.mpr c23))
      · rw [e26] at c23
        refine wq_aload_n q276_26 rfl ?_
        refine wq_iload_n q276_27 rfl ?_
        refine cV (As := [_]) q276_28 m_210 rfl rfl rfl ⟨by decide, rfl⟩ rfl (c_risEvent ?_)
        refine wq_if_ne q276_31 (fun c31 => ?_) (fun c31 => ?_)
        · have c := i10 c31
          rw [e27] at c
          obtain ⟨v, hv, rfl⟩ := inB_N (m := ev) (by omega) c
          refine wq_iconst q276_36 ?_
          refine wq_istore_n (ls' := [_, _, _, _, _, _, _, _, _]) q276_37 rfl ?_
          refine wq_iconst q276_38 ?_
          refine wq_istore (ls' := [_, _, _, _, _, _, _, _, _]) q276_39 rfl ?_
          refine wq_iconst q276_41 ?_
          refine wq_istore (ls' := [_, _, _, _, _, _, _, _, _]) q276_42 rfl ?_
          refine c_rescape_loop (row := row) (H := heV hi f lw sz n v row) hF hw hv (fun _ => rfl) (fun c hc => ?_) n 0 (-1, 8) (-1, 0) _ t _ _ _ (by omega) hr0 (Or.inr ⟨rfl, rfl⟩) (fun hi2 t2 hS => h1 v hi2 t2 hv rfl (Int32.not_lt.mp c13) (Int32.not_le.mp c23) hS)
          obtain ⟨k, hk, e⟩ := set7 (x := heV hi f lw sz n v row c &&& (set ^^^ (-1))) (fun i h1 h2 => by rw [b_and, show bt (heV hi f lw sz n v row c) i = false from hw.hr_hi hn (by omega) h2]; rfl)
          rw [e]
          exact (bc7 k hk).1
        · have c := i01 c31
          rw [e27] at c
          refine wq_iconst q276_34 ?_
          refine rI q276_35 rfl ?_
          exact h0 (fun z => by rw [z.1] at c; cases c)
theorem c_rbuysB {o p x y : Int32} (hF : RF hi f lw sz n ev wi) (hw : RW n row (hi 71)) (hlg : lg ≤ 60) (h33 : hi 71 33 = nI lg)
    (h0 : ¬ (cbB (nI n) (row wi) o p = true ∧ 0 ≤ x ∧ x ≤ 1 ∧ 0 ≤ y ∧ y ≤ 1) → Q (some (.int (-1000000))) (HP (up2 hi 58 0 0) hl f dr t))
    (h1 : ∀ a b hi' t', a < n → b < n → o = nI a → p = nI b → cbB (nI n) (row wi) o p = true → 0 ≤ x → x ≤ 1 → 0 ≤ y → y ≤ 1 → RS hi hi' → Q (some (.int (hsV (hbV hi f lw sz n ev wi row) (hi (f + 1) 3) a b x y))) (HP hi' hl f dr t')) :
    Ct G (0, 0) (d + 37) 287 [.ref 58, .int o, .int p, .int x, .int y] (HP hi hl f dr t) Q := by
  have hn := hF.2.1.1
  have hwi := hF.2.1.2.2.2.1
  have hr0 : RS hi (up2 hi 58 0 0) := RS.upK (by decide) _
  have hF0 := hr0.mv hF
  refine Ct_of (ls := [_, _, _, _, _]) m_287.1.2.2.1 (Nat.le_of_ble_eq_true rfl) rfl ?_
  refine wq_aload_n q287_0 rfl ?_
  refine wq_iconst q287_1 ?_
  refine wq_putI q287_2 rfl rfl rfl rfl ?_
  rw [hpS]
  refine wq_aload_n q287_5 rfl ?_
  refine wq_iload_n q287_6 rfl ?_
  refine wq_iload_n q287_7 rfl ?_
  refine cV (As := [_, _]) q287_8 m_285 rfl rfl rfl ⟨by decide, rfl⟩ rfl (c_rcanBuy hn hF0.2.2.1.1 ((hF0.2.2.1.2.2.1 0 (by decide)).trans hF0.2.1.2.2.2.2.2.2) hw hwi ?_)
  refine wq_if_eq q287_11 (fun c11 => ?_) (fun c11 => ?_)
  · have c := i01 c11
    refine wq_ldc_w q287_47 ?_
    refine rI q287_50 rfl ?_
    exact h0 (fun z => by rw [z.1] at c; cases c)
  · have cb := i10 c11
    refine wq_iload_n q287_14 rfl ?_
    refine wq_i2l q287_15 ?_
    refine wq_lconst q287_16 ?_
    refine wq_lconst q287_17 ?_
    refine cS' (As := [_, _, _]) q287_18 m_170 rfl rfl rfl (c_isIn ?_)
    refine wq_if_eq q287_21 (fun c21 => ?_) (fun c21 => ?_)
    · have c := i01 c21
      refine wq_ldc_w q287_47 ?_
      refine rI q287_50 rfl ?_
      exact h0 (fun z => by rw [iiB_01.mpr ⟨z.2.1, z.2.2.1⟩] at c; cases c)
    · have c1 := iiB_01.mp (i10 c21)
      refine wq_iload q287_24 rfl ?_
      refine wq_i2l q287_26 ?_
      refine wq_lconst q287_27 ?_
      refine wq_lconst q287_28 ?_
      refine cS' (As := [_, _, _]) q287_29 m_170 rfl rfl rfl (c_isIn ?_)
      refine wq_if_eq q287_32 (fun c32 => ?_) (fun c32 => ?_)
      · have c := i01 c32
        refine wq_ldc_w q287_47 ?_
        refine rI q287_50 rfl ?_
        exact h0 (fun z => by rw [iiB_01.mpr z.2.2.2] at c; cases c)
      · have c2 := iiB_01.mp (i10 c32)
        have cb' := cb
        obtain ⟨a, b, ha, hb, rfl, rfl⟩ := cbB_N hn cb
        refine wq_aload_n q287_35 rfl ?_
        refine wq_iload_n q287_36 rfl ?_
        refine wq_iload_n q287_37 rfl ?_
        refine wq_iload_n q287_38 rfl ?_
        refine wq_iload q287_39 rfl ?_
        refine cV (As := [_, _, _, _]) q287_41 m_286 rfl rfl rfl ⟨by decide, rfl⟩ rfl (c_rbuysOf (d := d) hF0 hw hlg h33 ha hb (fun hi' t' hS => ?_))
        refine wq_goto q287_44 ?_
        refine rI q287_50 rfl ?_
        have e : hbV (up2 hi 58 0 0) f lw sz n ev wi row = hbV hi f lw sz n ev wi row := by unfold hbV; rw [taR_congr (hr0.fl hF), (hr0.fl hF).2.1]
        rw [e, (hr0.fl hF).2.1]
        exact h1 a b hi' t' ha hb rfl rfl cb' c1.1 c1.2 c2.1 c2.2 (hr0.tr hS)
theorem c_rrestsB {o p i : Int32} (hF : RF hi f lw sz n ev wi) (hw : RW n row (hi 71)) (hlg : lg ≤ 60) (h33 : hi 71 33 = nI lg)
    (h0 : ¬ (cbB (nI n) (row wi) o p = true ∧ -1 ≤ i) → Q (some (.int (-1))) (HP (up2 hi 58 0 0) hl f dr t))
    (h1 : ∀ a b hi' t', a < n → b < n → o = nI a → p = nI b → cbB (nI n) (row wi) o p = true → -1 ≤ i → RS hi hi' → Q (some (.int (reR (hbV hi f lw sz n ev wi row) (hi (f + 1) 3) a b i 4 0 0))) (HP hi' hl f dr t')) :
    Ct G (0, 0) (d + 37) 288 [.ref 58, .int o, .int p, .int i] (HP hi hl f dr t) Q := by
  have hn := hF.2.1.1
  have hwi := hF.2.1.2.2.2.1
  have hr0 : RS hi (up2 hi 58 0 0) := RS.upK (by decide) _
  have hF0 := hr0.mv hF
  refine Ct_of (ls := [_, _, _, _, _, _, _, _]) m_288.1.2.2.1 (Nat.le_of_ble_eq_true rfl) rfl ?_
  refine wq_aload_n q288_0 rfl ?_
  refine wq_iconst q288_1 ?_
  refine wq_putI q288_2 rfl rfl rfl rfl ?_
  rw [hpS]
  refine wq_aload_n q288_5 rfl ?_
  refine wq_iload_n q288_6 rfl ?_
  refine wq_iload_n q288_7 rfl ?_
  refine cV (As := [_, _]) q288_8 m_285 rfl rfl rfl ⟨by decide, rfl⟩ rfl (c_rcanBuy hn hF0.2.2.1.1 ((hF0.2.2.1.2.2.1 0 (by decide)).trans hF0.2.1.2.2.2.2.2.2) hw hwi ?_)
  refine wq_if_eq q288_11 (fun c11 => ?_) (fun c11 => ?_)
  · have c := i01 c11
    refine wq_iconst q288_19 ?_
    refine rI q288_20 rfl ?_
    exact h0 (fun z => by rw [z.1] at c; cases c)
  · have cb := i10 c11
    refine wq_iload_n q288_14 rfl ?_
    refine wq_iconst q288_15 ?_
    refine wq_icmp_ge q288_16 (fun c16 => ?_) (fun c16 => ?_)
    · have cb' := cb
      obtain ⟨a, b, ha, hb, rfl, rfl⟩ := cbB_N hn cb
      refine wq_iconst q288_21 ?_
      refine wq_istore (ls' := [_, _, _, _, _, _, _, _]) q288_22 rfl ?_
      refine wq_iconst q288_24 ?_
      refine wq_istore (ls' := [_, _, _, _, _, _, _, _]) q288_25 rfl ?_
      exact c_rrests_loop (d := d) (row := row) hF hw hlg h33 ha hb rfl 4 0 0 _ t _ _ (by omega) hr0 (fun hi2 t2 hS => h1 a b hi2 t2 ha hb rfl rfl cb' c16 hS)
    · refine wq_iconst q288_19 ?_
      refine rI q288_20 rfl ?_
      exact h0 (fun z => c16 z.2)
end MEND
