/-! BYTES: how a tape is fed, in the class and in the reference -/
/-- a byte of a number -/
def byG (x s : Int32) : Int32 := (x.toUInt32 >>> (s.toUInt32 &&& Int32.toUInt32 31)).toInt32 &&& 255
theorem byG_s {x : Int32} {n : Nat} (hn : n ≤ 24) : (x >>> (nI n &&& 31)) &&& 255 = byG x (nI n) := by
  apply b_ext
  intro i hi
  unfold byG
  rw [b_and, b_and, b_ushr n (by omega), b_sshr n (by omega) x hi, b_255]
  by_cases h : i < 8
  · rw [if_pos (by omega)]
  · simp [h]
theorem byG_n (x s : Int32) : ∃ n, n < 256 ∧ byG x s = nI n := by
  obtain ⟨k, -, hk⟩ := wb_of32 ((x.toUInt32 >>> (s.toUInt32 &&& Int32.toUInt32 31)).toInt32)
  refine ⟨k &&& 255, ?_, ?_⟩
  · exact Nat.lt_of_le_of_lt Nat.and_le_right (by decide)
  · unfold byG
    rw [hk]
    exact nx_and k 255
theorem by8 (y : Int32) : (y &&& 255).toInt8 = y.toInt8 := by
  apply Int8.toBitVec_inj.mp
  apply BitVec.eq_of_getLsbD_eq
  intro i hi
  have h1 : ∀ z : Int32, z.toInt8.toBitVec.getLsbD i = bt z i := by
    intro z
    show (z.toBitVec.signExtend 8).getLsbD i = z.toBitVec.getLsbD i
    rw [BitVec.getLsbD_signExtend]
    simp [hi, show i < 32 by omega]
  rw [h1, h1, b_and, b_255]
  simp [hi]
theorem vp_nar8 (z : Int32) : vp_nar .byte z.toInt8.toInt32 = z.toInt8.toInt32 := by
  show (z.toInt8.toInt32).toInt8.toInt32 = _
  rw [Int8.toInt8_toInt32]
/-- bytes that aren't 0 come to a row -/
def adS (e : Int32 → Int32) (x s : Int32) (z : Nat × (Nat → Int32)) : Nat × (Nat → Int32) := if byG x s = 0 then z else (z.1 + 1, va_up z.2 z.1 (e (byG x s)))
def adA (e : Int32 → Int32) (x : Int32) (z : Nat × (Nat → Int32)) : Nat × (Nat → Int32) := adS e x 0 (adS e x 8 (adS e x 16 (adS e x 24 z)))
def b1N (x s : Int32) : Nat := if byG x s = 0 then 0 else 1
def bcN (x : Int32) : Nat := b1N x 24 + b1N x 16 + b1N x 8 + b1N x 0
theorem adS_1 {e : Int32 → Int32} {x s : Int32} {z : Nat × (Nat → Int32)} : (adS e x s z).1 = z.1 + b1N x s := by
  unfold adS b1N
  split
  · rfl
  · rfl
theorem adA_1 {e : Int32 → Int32} {x : Int32} {z : Nat × (Nat → Int32)} : (adA e x z).1 = z.1 + bcN x := by
  unfold adA bcN
  rw [adS_1, adS_1, adS_1, adS_1]
  omega
def e8 (x : Int32) : Int32 := x.toInt8.toInt32
/-- the class's row and the reference's -/
def adR (z y : Nat × (Nat → Int32)) : Prop := y.1 = z.1 ∧ ∀ j, j < z.1 → (∃ n, 1 ≤ n ∧ n < 256 ∧ z.2 j = nI n) ∧ y.2 j = e8 (z.2 j)
theorem adS_R {x s : Int32} {z y : Nat × (Nat → Int32)} (h : adR z y) : adR (adS (fun v => v) x s z) (adS e8 x s y) := by
  unfold adS
  by_cases h0 : byG x s = 0
  · rw [if_pos h0, if_pos h0]; exact h
  · rw [if_neg h0, if_neg h0]
    obtain ⟨h1, h2⟩ := h
    refine ⟨by show y.1 + 1 = z.1 + 1; omega, fun j hj => ?_⟩
    have hj : j < z.1 + 1 := hj
    show (∃ n, 1 ≤ n ∧ n < 256 ∧ va_up z.2 z.1 (byG x s) j = nI n) ∧ va_up y.2 y.1 (e8 (byG x s)) j = e8 (va_up z.2 z.1 (byG x s) j)
    rw [h1]
    by_cases hjz : j = z.1
    · subst hjz
      rw [vu_s, vu_s]
      obtain ⟨n, n1, n2⟩ := byG_n x s
      exact ⟨⟨n, Nat.pos_of_ne_zero (fun z => h0 (by rw [n2, z]; rfl)), n1, n2⟩, rfl⟩
    · rw [vu_o _ _ hjz, vu_o _ _ hjz]
      exact h2 j (by omega)
theorem adA_R {x : Int32} {z y : Nat × (Nat → Int32)} (h : adR z y) : adR (adA (fun v => v) x z) (adA e8 x y) := adS_R (adS_R (adS_R (adS_R h)))
/-- the class's tape, the reference's -/
def tpL (hi : Nat → Nat → Int32) (z : Nat × (Nat → Int32)) : Nat → Nat → Int32 := upC (up2 hi 1 1 (nI z.1)) 2 z.2
def rtL (hi : Nat → Nat → Int32) (z : Nat × (Nat → Int32)) : Nat → Nat → Int32 := upC (up2 hi 58 6 (nI z.1)) 59 z.2
theorem tpL_self {hi : Nat → Nat → Int32} {L : Nat} (h : hi 1 1 = nI L) : hi = tpL hi (L, hi 2) := by
  unfold tpL
  rw [up2_self _ _ _ h, upC_self _ _ rfl]
theorem rtL_self {hi : Nat → Nat → Int32} {L : Nat} (h : hi 58 6 = nI L) : hi = rtL hi (L, hi 59) := by
  unfold rtL
  rw [up2_self _ _ _ h, upC_self _ _ rfl]
section FEED
variable {G : ph_G} {d f dr t L : Nat} {hi : Nat → Nat → Int32} {hl : Nat → Nat → Int64} {Q : Option Value → ph_H → Prop}
theorem c_bytesIn {x : Int32} {h : ph_H} (hQ : Q (some (.int (nI (bcN x)))) h) : Ct G (0, 0) d 65 [.int x] h Q := by
  have step : ∀ (s : Int32) (k : Nat), ¬ s < 0 → wq G (0, 0) d 65 5 [some (.int x), some (.int (nI (k + b1N x s))), some (.int (s + -8))] [] (0, 0) h Q → wq G (0, 0) d 65 5 [some (.int x), some (.int (nI k)), some (.int s)] [] (0, 0) h Q := by
    intro s k hs K
    refine wq_iload_n q65_5 rfl ?_
    refine wq_if_lt q65_6 (fun c6 => ?_) (fun c6 => ?_)
    · exact absurd c6 hs
    · refine wq_iload_n q65_9 rfl ?_
      refine wq_iload_n q65_10 rfl ?_
      refine wq_iload_n q65_11 rfl ?_
      refine wq_iushr q65_12 ?_
      refine wq_sipush q65_13 ?_
      refine wq_iand q65_16 ?_
      refine wq_if_ne q65_17 (fun c17 => ?_) (fun c17 => ?_)
      · have hb : b1N x s = 1 := if_neg c17
        rw [hb] at K
        refine wq_iconst q65_24 ?_
        refine wq_iadd q65_25 ?_
        refine wq_istore_n (ls' := [_, _, _]) q65_26 rfl ?_
        refine wq_iinc (ls' := [_, _, _]) q65_27 rfl rfl ?_
        refine wq_goto q65_30 ?_
        rw [nI_1]
        exact K
      · have hb : b1N x s = 0 := if_pos c17
        rw [hb, ← nI_add] at K
        refine wq_iconst q65_20 ?_
        refine wq_goto q65_21 ?_
        refine wq_iadd q65_25 ?_
        refine wq_istore_n (ls' := [_, _, _]) q65_26 rfl ?_
        refine wq_iinc (ls' := [_, _, _]) q65_27 rfl rfl ?_
        refine wq_goto q65_30 ?_
        exact K
  refine Ct_of (ls := [_, _, _]) m_65.1.2.2.1 (Nat.le_of_ble_eq_true rfl) rfl ?_
  refine wq_iconst q65_0 ?_
  refine wq_istore_n (ls' := [_, _, _]) q65_1 rfl ?_
  refine wq_bipush q65_2 ?_
  refine wq_istore_n (ls' := [_, _, _]) q65_4 rfl ?_
  refine step 24 0 (by decide) (step 16 _ (by decide) (step 8 _ (by decide) (step 0 _ (by decide) ?_)))
  refine wq_iload_n q65_5 rfl ?_
  refine wq_if_lt q65_6 (fun c6 => ?_) (fun c6 => ?_)
  · refine wq_iload_n q65_33 rfl ?_
    refine rI q65_34 rfl ?_
    rw [show 0 + b1N x 24 + b1N x 16 + b1N x 8 + b1N x 0 = bcN x by unfold bcN; omega]
    exact hQ
  · exact absurd (by decide) c6
theorem c_rbytesIn {x : Int32} {h : ph_H} (hQ : Q (some (.int (nI (bcN x)))) h) : Ct G (0, 0) d 173 [.int x] h Q := by
  have step : ∀ (s : Int32) (n k : Nat), s = nI n → n ≤ 24 → wq G (0, 0) d 173 5 [some (.int x), some (.int (nI (k + b1N x s))), some (.int (s + -8))] [] (0, 0) h Q → wq G (0, 0) d 173 5 [some (.int x), some (.int (nI k)), some (.int s)] [] (0, 0) h Q := by
    intro s n k hs hn K
    subst hs
    refine wq_iload_n q173_5 rfl ?_
    refine wq_if_lt q173_6 (fun c6 => ?_) (fun c6 => ?_)
    · exact absurd c6 (nI_pos (by omega))
    · refine wq_iload_n q173_9 rfl ?_
      refine wq_iload_n q173_10 rfl ?_
      refine wq_iload_n q173_11 rfl ?_
      refine wq_ishr q173_12 ?_
      refine wq_sipush q173_13 ?_
      refine wq_iand q173_16 ?_
      refine wq_if_eq q173_17 (fun c17 => ?_) (fun c17 => ?_)
      · rw [byG_s hn] at c17
        have hb : b1N x (nI n) = 0 := if_pos c17
        rw [hb, ← nI_add] at K
        refine wq_iconst q173_24 ?_
        refine wq_iadd q173_25 ?_
        refine wq_istore_n (ls' := [_, _, _]) q173_26 rfl ?_
        refine wq_iinc (ls' := [_, _, _]) q173_27 rfl rfl ?_
        refine wq_goto q173_30 ?_
        exact K
      · rw [byG_s hn] at c17
        have hb : b1N x (nI n) = 1 := if_neg c17
        rw [hb] at K
        refine wq_iconst q173_20 ?_
        refine wq_goto q173_21 ?_
        refine wq_iadd q173_25 ?_
        refine wq_istore_n (ls' := [_, _, _]) q173_26 rfl ?_
        refine wq_iinc (ls' := [_, _, _]) q173_27 rfl rfl ?_
        refine wq_goto q173_30 ?_
        rw [nI_1]
        exact K
  refine Ct_of (ls := [_, _, _]) m_173.1.2.2.1 (Nat.le_of_ble_eq_true rfl) rfl ?_
  refine wq_iconst q173_0 ?_
  refine wq_istore_n (ls' := [_, _, _]) q173_1 rfl ?_
  refine wq_bipush q173_2 ?_
  refine wq_istore_n (ls' := [_, _, _]) q173_4 rfl ?_
  refine step 24 24 0 rfl (by decide) (step 16 16 _ rfl (by decide) (step 8 8 _ rfl (by decide) (step 0 0 _ rfl (by decide) ?_)))
  refine wq_iload_n q173_5 rfl ?_
  refine wq_if_lt q173_6 (fun c6 => ?_) (fun c6 => ?_)
  · refine wq_iload_n q173_33 rfl ?_
    refine rI q173_34 rfl ?_
    rw [show 0 + b1N x 24 + b1N x 16 + b1N x 8 + b1N x 0 = bcN x by unfold bcN; omega]
    exact hQ
  · exact absurd (by decide) c6
theorem c_add {x : Int32} {z : Nat × (Nat → Int32)} (hz : z.1 + bcN x ≤ 240) (hQ : Q none (HP (tpL hi (adA (fun v => v) x z)) hl f dr t)) : Ct G (0, 0) d 66 [.ref 1, .int x] (HP (tpL hi z) hl f dr t) Q := by
  have step : ∀ (s : Int32) (z : Nat × (Nat → Int32)) (x3 : Option Value), ¬ s < 0 → z.1 + b1N x s ≤ 240 → (∀ x3, wq G (0, 0) d 66 3 [some (.ref 1), some (.int x), some (.int (s + -8)), x3] [] (0, 0) (HP (tpL hi (adS (fun v => v) x s z)) hl f dr t) Q) → wq G (0, 0) d 66 3 [some (.ref 1), some (.int x), some (.int s), x3] [] (0, 0) (HP (tpL hi z) hl f dr t) Q := by
    intro s z x3 hs hz K
    have e1 : ∀ z, hI (HP (tpL hi z) hl f dr t) 1 1 = nI z.1 := fun _ => rfl
    refine wq_iload_n q66_3 rfl ?_
    refine wq_if_lt q66_4 (fun c4 => ?_) (fun c4 => ?_)
    · exact absurd c4 hs
    · refine wq_iload_n q66_7 rfl ?_
      refine wq_iload_n q66_8 rfl ?_
      refine wq_iushr q66_9 ?_
      refine wq_sipush q66_10 ?_
      refine wq_iand q66_13 ?_
      refine wq_istore_n (ls' := [_, _, _, _]) q66_14 rfl ?_
      refine wq_iload_n q66_15 rfl ?_
      refine wq_if_eq q66_16 (fun c16 => ?_) (fun c16 => ?_)
      · have hb : adS (fun v => v) x s z = z := if_pos c16
        rw [hb] at K
        refine wq_iinc (ls' := [_, _, _, _]) q66_49 rfl rfl ?_
        refine wq_goto q66_52 ?_
        exact K _
      · have hb : adS (fun v => v) x s z = (z.1 + 1, va_up z.2 z.1 (byG x s)) := if_neg c16
        rw [hb] at K
        have hb1 : b1N x s = 1 := if_neg c16
        refine wq_aload_n q66_19 rfl ?_
        refine wq_getI q66_20 rfl rfl ?_
        refine wq_sipush q66_23 ?_
        refine wq_icmp_ge q66_26 (fun c26 => ?_) (fun c26 => ?_)
        · rw [e1, show (240 : Int32) = nI 240 from rfl, nI_leI (by omega) (by omega)] at c26
          omega
        · refine wq_aload_n q66_29 rfl ?_
          refine wq_getR q66_30 rfl rfl rfl ?_
          refine wq_aload_n q66_33 rfl ?_
          refine wq_getI q66_34 rfl rfl ?_
          refine wq_iload_n q66_37 rfl ?_
          refine sI q66_38 rfl (e1 z) (by omega) (by first | decide | omega) rfl ?_
          rw [show (x.toUInt32 >>> (s.toUInt32 &&& Int32.toUInt32 31)).toInt32 &&& 255 = byG x s from rfl, hpS, show up2 (tpL hi z) 2 z.1 (byG x s) = tpL hi (z.1, va_up z.2 z.1 (byG x s)) by unfold tpL; rw [up2_C, upC_s, upC_C]]
          refine wq_aload_n q66_39 rfl ?_
          refine wq_dup q66_40 rfl ?_
          refine wq_getI q66_41 rfl rfl ?_
          refine wq_iconst q66_44 ?_
          refine wq_iadd q66_45 ?_
          refine wq_putI q66_46 rfl rfl rfl rfl ?_
          refine wq_iinc (ls' := [_, _, _, _]) q66_49 rfl rfl ?_
          refine wq_goto q66_52 ?_
          rw [e1, nI_1, hpS, show ∀ B, up2 (tpL hi (z.1, B)) 1 1 (nI (z.1 + 1)) = tpL hi (z.1 + 1, B) from fun B => by unfold tpL; rw [up2_C, upC_o _ _ (by decide), upC_comm _ _ _ (by decide), ← up2_C, up2_uu]]
          exact K _
  have hb : bcN x = b1N x 24 + b1N x 16 + b1N x 8 + b1N x 0 := rfl
  refine Ct_of (ls := [_, _, _, _]) m_66.1.2.2.1 (Nat.le_of_ble_eq_true rfl) rfl ?_
  refine wq_bipush q66_0 ?_
  refine wq_istore_n (ls' := [_, _, _, _]) q66_2 rfl ?_
  refine step 24 z _ (by decide) (by omega) (fun _ => step 16 _ _ (by decide) (by rw [adS_1]; omega) (fun _ => step 8 _ _ (by decide) (by rw [adS_1, adS_1]; omega) (fun _ => step 0 _ _ (by decide) (by rw [adS_1, adS_1, adS_1]; omega) (fun _ => ?_))))
  refine wq_iload_n q66_3 rfl ?_
  refine wq_if_lt q66_4 (fun c4 => ?_) (fun c4 => ?_)
  · refine rV q66_55 ?_
    exact hQ
  · exact absurd (by decide) c4
theorem c_rput {x : Int32} {z : Nat × (Nat → Int32)} (hz : z.1 + bcN x ≤ 240) (hQ : Q none (HP (rtL hi (adA e8 x z)) hl f dr t)) : Ct G (0, 0) d 174 [.ref 58, .int x] (HP (rtL hi z) hl f dr t) Q := by
  have step : ∀ (s : Int32) (n : Nat) (z : Nat × (Nat → Int32)), s = nI n → n ≤ 24 → z.1 + b1N x s ≤ 240 → wq G (0, 0) d 174 3 [some (.ref 58), some (.int x), some (.int (s + -8))] [] (0, 0) (HP (rtL hi (adS e8 x s z)) hl f dr t) Q → wq G (0, 0) d 174 3 [some (.ref 58), some (.int x), some (.int s)] [] (0, 0) (HP (rtL hi z) hl f dr t) Q := by
    intro s n z hs hn hz K
    subst hs
    have e1 : ∀ z, hI (HP (rtL hi z) hl f dr t) 58 6 = nI z.1 := fun _ => rfl
    refine wq_iload_n q174_3 rfl ?_
    refine wq_if_lt q174_4 (fun c4 => ?_) (fun c4 => ?_)
    · exact absurd c4 (nI_pos (by omega))
    · refine wq_iload_n q174_7 rfl ?_
      refine wq_iload_n q174_8 rfl ?_
      refine wq_ishr q174_9 ?_
      refine wq_sipush q174_10 ?_
      refine wq_iand q174_13 ?_
      refine wq_if_ne q174_14 (fun c14 => ?_) (fun c14 => ?_)
      · rw [byG_s hn] at c14
        have hb : adS e8 x (nI n) z = (z.1 + 1, va_up z.2 z.1 (e8 (byG x (nI n)))) := if_neg c14
        rw [hb] at K
        have hb1 : b1N x (nI n) = 1 := if_neg c14
        have ev : vp_nar .byte (x >>> (nI n &&& 31)).toInt8.toInt32 = e8 (byG x (nI n)) := by
          rw [← byG_s hn]
          unfold e8
          rw [by8]
          exact vp_nar8 _
        refine wq_aload_n q174_20 rfl ?_
        refine wq_getR q174_21 rfl rfl rfl ?_
        refine wq_aload_n q174_24 rfl ?_
        refine wq_getI q174_25 rfl rfl ?_
        refine wq_iload_n q174_28 rfl ?_
        refine wq_iload_n q174_29 rfl ?_
        refine wq_ishr q174_30 ?_
        refine wq_i2b q174_31 ?_
        refine sB q174_32 rfl (e1 z) (by omega) (by first | decide | omega) rfl ?_
        rw [ev, hpS, show up2 (rtL hi z) 59 z.1 (e8 (byG x (nI n))) = rtL hi (z.1, va_up z.2 z.1 (e8 (byG x (nI n)))) by unfold rtL; rw [up2_C, upC_s, upC_C]]
        refine wq_aload_n q174_33 rfl ?_
        refine wq_dup q174_34 rfl ?_
        refine wq_getI q174_35 rfl rfl ?_
        refine wq_iconst q174_38 ?_
        refine wq_iadd q174_39 ?_
        refine wq_putI q174_40 rfl rfl rfl rfl ?_
        refine wq_iinc (ls' := [_, _, _]) q174_43 rfl rfl ?_
        refine wq_goto q174_46 ?_
        rw [e1, nI_1, hpS, show ∀ B, up2 (rtL hi (z.1, B)) 58 6 (nI (z.1 + 1)) = rtL hi (z.1 + 1, B) from fun B => by unfold rtL; rw [up2_C, upC_o _ _ (by decide), upC_comm _ _ _ (by decide), ← up2_C, up2_uu]]
        exact K
      · rw [byG_s hn] at c14
        have hb : adS e8 x (nI n) z = z := if_pos c14
        rw [hb] at K
        refine wq_goto q174_17 ?_
        refine wq_iinc (ls' := [_, _, _]) q174_43 rfl rfl ?_
        refine wq_goto q174_46 ?_
        exact K
  have hb : bcN x = b1N x 24 + b1N x 16 + b1N x 8 + b1N x 0 := rfl
  refine Ct_of (ls := [_, _, _]) m_174.1.2.2.1 (Nat.le_of_ble_eq_true rfl) rfl ?_
  refine wq_bipush q174_0 ?_
  refine wq_istore_n (ls' := [_, _, _]) q174_2 rfl ?_
  refine step 24 24 z rfl (by decide) (by omega) (step 16 16 _ rfl (by decide) (by rw [adS_1]; omega) (step 8 8 _ rfl (by decide) (by rw [adS_1, adS_1]; omega) (step 0 0 _ rfl (by decide) (by rw [adS_1, adS_1, adS_1]; omega) ?_)))
  refine wq_iload_n q174_3 rfl ?_
  refine wq_if_lt q174_4 (fun c4 => ?_) (fun c4 => ?_)
  · refine rV q174_49 ?_
    exact hQ
  · exact absurd (by decide) c4
def fdN (a b c e g : Int32) : Nat := bcN a + bcN b + bcN c + bcN e + bcN g
def fdZ (k : Int32 → Int32) (a b c e g : Int32) (z : Nat × (Nat → Int32)) : Nat × (Nat → Int32) := adA k g (adA k e (adA k c (adA k b (adA k a z))))
theorem bcN_4 (x : Int32) : bcN x ≤ 4 := by
  have : ∀ s, b1N x s ≤ 1 := fun s => by unfold b1N; split <;> omega
  have h1 := this 24
  have h2 := this 16
  have h3 := this 8
  have h4 := this 0
  unfold bcN
  omega
theorem c_feed {a b c e g : Int32} (hL : hi 1 1 = nI L) (hLm : L ≤ 240) (h0 : 240 < L + fdN a b c e g → Q (some (.int (-1))) (HP hi hl f dr t)) (h1 : L + fdN a b c e g ≤ 240 → Q (some (.int (nI (L + fdN a b c e g)))) (HP (tpL hi (fdZ (fun v => v) a b c e g (L, hi 2))) hl f dr t)) : Ct G (0, 0) (d + 1) 87 [.ref 0, .int a, .int b, .int c, .int e, .int g] (HP hi hl f dr t) Q := by
  have e1 : hI (HP hi hl f dr t) 1 1 = nI L := hL
  have k1 := bcN_4 a
  have k2 := bcN_4 b
  have k3 := bcN_4 c
  have k4 := bcN_4 e
  have k5 := bcN_4 g
  refine Ct_of (ls := [_, _, _, _, _, _, _]) m_87.1.2.2.1 (Nat.le_of_ble_eq_true rfl) rfl ?_
  refine wq_iload_n q87_0 rfl ?_
  refine cS' (As := [_]) q87_1 m_65 rfl rfl rfl (c_bytesIn ?_)
  refine wq_iload_n q87_4 rfl ?_
  refine cS' (As := [_]) q87_5 m_65 rfl rfl rfl (c_bytesIn ?_)
  refine wq_iadd q87_8 ?_
  refine wq_iload_n q87_9 rfl ?_
  refine cS' (As := [_]) q87_10 m_65 rfl rfl rfl (c_bytesIn ?_)
  refine wq_iadd q87_13 ?_
  refine wq_iload q87_14 rfl ?_
  refine cS' (As := [_]) q87_16 m_65 rfl rfl rfl (c_bytesIn ?_)
  refine wq_iadd q87_19 ?_
  refine wq_iload q87_20 rfl ?_
  refine cS' (As := [_]) q87_22 m_65 rfl rfl rfl (c_bytesIn ?_)
  refine wq_iadd q87_25 ?_
  rw [nI_add, nI_add, nI_add, nI_add, show bcN a + bcN b + bcN c + bcN e + bcN g = fdN a b c e g from rfl]
  have hN : fdN a b c e g = bcN a + bcN b + bcN c + bcN e + bcN g := rfl
  refine wq_istore (ls' := [_, _, _, _, _, _, _]) q87_26 rfl ?_
  refine wq_aload_n q87_28 rfl ?_
  refine wq_getR q87_29 rfl rfl rfl ?_
  refine wq_getI q87_32 rfl rfl ?_
  refine wq_iload q87_35 rfl ?_
  refine wq_iadd q87_37 ?_
  refine wq_sipush q87_38 ?_
  refine wq_icmp_le q87_41 (fun c41 => ?_) (fun c41 => ?_)
  · rw [e1, nI_add, show (240 : Int32) = nI 240 from rfl, nI_leI (by omega) (by omega)] at c41
    rw [show HP hi hl f dr t = HP (tpL hi (L, hi 2)) hl f dr t from by rw [← tpL_self hL]]
    refine wq_aload_n q87_46 rfl ?_
    refine wq_getR q87_47 rfl rfl rfl ?_
    refine wq_iload_n q87_50 rfl ?_
    refine cV (As := [_]) q87_51 m_66 rfl rfl rfl ⟨by decide, rfl⟩ rfl (c_add (by show L + bcN a ≤ 240; omega) ?_)
    refine wq_aload_n q87_54 rfl ?_
    refine wq_getR q87_55 rfl rfl rfl ?_
    refine wq_iload_n q87_58 rfl ?_
    refine cV (As := [_]) q87_59 m_66 rfl rfl rfl ⟨by decide, rfl⟩ rfl (c_add (by rw [adA_1]; show L + bcN a + bcN b ≤ 240; omega) ?_)
    refine wq_aload_n q87_62 rfl ?_
    refine wq_getR q87_63 rfl rfl rfl ?_
    refine wq_iload_n q87_66 rfl ?_
    refine cV (As := [_]) q87_67 m_66 rfl rfl rfl ⟨by decide, rfl⟩ rfl (c_add (by rw [adA_1, adA_1]; show L + bcN a + bcN b + bcN c ≤ 240; omega) ?_)
    refine wq_aload_n q87_70 rfl ?_
    refine wq_getR q87_71 rfl rfl rfl ?_
    refine wq_iload q87_74 rfl ?_
    refine cV (As := [_]) q87_76 m_66 rfl rfl rfl ⟨by decide, rfl⟩ rfl (c_add (by rw [adA_1, adA_1, adA_1]; show L + bcN a + bcN b + bcN c + bcN e ≤ 240; omega) ?_)
    refine wq_aload_n q87_79 rfl ?_
    refine wq_getR q87_80 rfl rfl rfl ?_
    refine wq_iload q87_83 rfl ?_
    refine cV (As := [_]) q87_85 m_66 rfl rfl rfl ⟨by decide, rfl⟩ rfl (c_add (by rw [adA_1, adA_1, adA_1, adA_1]; show L + bcN a + bcN b + bcN c + bcN e + bcN g ≤ 240; omega) ?_)
    have e2 : hI (HP (tpL hi (fdZ (fun v => v) a b c e g (L, hi 2))) hl f dr t) 1 1 = nI (L + fdN a b c e g) := by
      show nI (fdZ (fun v => v) a b c e g (L, hi 2)).1 = _
      unfold fdZ
      rw [adA_1, adA_1, adA_1, adA_1, adA_1, hN]
      congr 1
      show L + bcN a + bcN b + bcN c + bcN e + bcN g = _
      omega
    refine wq_aload_n q87_88 rfl ?_
    refine wq_getR q87_89 rfl rfl rfl ?_
    refine wq_getI q87_92 rfl rfl ?_
    refine rI q87_95 rfl ?_
    rw [← e2] at h1
    exact h1 c41
  · rw [e1, nI_add, show (240 : Int32) = nI 240 from rfl, nI_leI (by omega) (by omega)] at c41
    refine wq_iconst q87_44 ?_
    refine rI q87_45 rfl ?_
    exact h0 (by omega)
theorem c_rfeed {a b c e g : Int32} (hL : hi 58 6 = nI L) (hLm : L ≤ 240) (h0 : 240 < L + fdN a b c e g → Q (some (.int (-1))) (HP (up2 hi 58 0 0) hl f dr t)) (h1 : L + fdN a b c e g ≤ 240 → Q (some (.int (nI (L + fdN a b c e g)))) (HP (rtL (up2 hi 58 0 0) (fdZ e8 a b c e g (L, hi 59))) hl f dr t)) : Ct G (0, 0) (d + 1) 175 [.ref 58, .int a, .int b, .int c, .int e, .int g] (HP hi hl f dr t) Q := by
  have hL' : (up2 hi 58 0 0) 58 6 = nI L := hL
  have e1 : hI (HP (up2 hi 58 0 0) hl f dr t) 58 6 = nI L := hL
  have k1 := bcN_4 a
  have k2 := bcN_4 b
  have k3 := bcN_4 c
  have k4 := bcN_4 e
  have k5 := bcN_4 g
  have hN : fdN a b c e g = bcN a + bcN b + bcN c + bcN e + bcN g := rfl
  refine Ct_of (ls := [_, _, _, _, _, _]) m_175.1.2.2.1 (Nat.le_of_ble_eq_true rfl) rfl ?_
  refine wq_aload_n q175_0 rfl ?_
  refine wq_iconst q175_1 ?_
  refine wq_putI q175_2 rfl rfl rfl rfl ?_
  refine wq_aload_n q175_5 rfl ?_
  refine wq_getI q175_6 rfl rfl ?_
  rw [hpS, e1]
  refine wq_iload_n q175_9 rfl ?_
  refine cS' (As := [_]) q175_10 m_173 rfl rfl rfl (c_rbytesIn ?_)
  refine wq_iadd q175_13 ?_
  refine wq_iload_n q175_14 rfl ?_
  refine cS' (As := [_]) q175_15 m_173 rfl rfl rfl (c_rbytesIn ?_)
  refine wq_iadd q175_18 ?_
  refine wq_iload_n q175_19 rfl ?_
  refine cS' (As := [_]) q175_20 m_173 rfl rfl rfl (c_rbytesIn ?_)
  refine wq_iadd q175_23 ?_
  refine wq_iload q175_24 rfl ?_
  refine cS' (As := [_]) q175_26 m_173 rfl rfl rfl (c_rbytesIn ?_)
  refine wq_iadd q175_29 ?_
  refine wq_iload q175_30 rfl ?_
  refine cS' (As := [_]) q175_32 m_173 rfl rfl rfl (c_rbytesIn ?_)
  refine wq_iadd q175_35 ?_
  rw [nI_add, nI_add, nI_add, nI_add, nI_add, show L + bcN a + bcN b + bcN c + bcN e + bcN g = L + fdN a b c e g by rw [hN]; omega]
  refine wq_sipush q175_36 ?_
  refine wq_icmp_le q175_39 (fun c39 => ?_) (fun c39 => ?_)
  · rw [show (240 : Int32) = nI 240 from rfl, nI_leI (by omega) (by omega)] at c39
    rw [show HP (up2 hi 58 0 0) hl f dr t = HP (rtL (up2 hi 58 0 0) (L, hi 59)) hl f dr t from by rw [show hi 59 = up2 hi 58 0 0 59 from rfl, ← rtL_self hL']]
    refine wq_aload_n q175_44 rfl ?_
    refine wq_iload_n q175_45 rfl ?_
    refine cV (As := [_]) q175_46 m_174 rfl rfl rfl ⟨by decide, rfl⟩ rfl (c_rput (by show L + bcN a ≤ 240; omega) ?_)
    refine wq_aload_n q175_49 rfl ?_
    refine wq_iload_n q175_50 rfl ?_
    refine cV (As := [_]) q175_51 m_174 rfl rfl rfl ⟨by decide, rfl⟩ rfl (c_rput (by rw [adA_1]; show L + bcN a + bcN b ≤ 240; omega) ?_)
    refine wq_aload_n q175_54 rfl ?_
    refine wq_iload_n q175_55 rfl ?_
    refine cV (As := [_]) q175_56 m_174 rfl rfl rfl ⟨by decide, rfl⟩ rfl (c_rput (by rw [adA_1, adA_1]; show L + bcN a + bcN b + bcN c ≤ 240; omega) ?_)
    refine wq_aload_n q175_59 rfl ?_
    refine wq_iload q175_60 rfl ?_
    refine cV (As := [_]) q175_62 m_174 rfl rfl rfl ⟨by decide, rfl⟩ rfl (c_rput (by rw [adA_1, adA_1, adA_1]; show L + bcN a + bcN b + bcN c + bcN e ≤ 240; omega) ?_)
    refine wq_aload_n q175_65 rfl ?_
    refine wq_iload q175_66 rfl ?_
    refine cV (As := [_]) q175_68 m_174 rfl rfl rfl ⟨by decide, rfl⟩ rfl (c_rput (by rw [adA_1, adA_1, adA_1, adA_1]; show L + bcN a + bcN b + bcN c + bcN e + bcN g ≤ 240; omega) ?_)
    have e2 : hI (HP (rtL (up2 hi 58 0 0) (fdZ e8 a b c e g (L, hi 59))) hl f dr t) 58 6 = nI (L + fdN a b c e g) := by
      show nI (fdZ e8 a b c e g (L, hi 59)).1 = _
      unfold fdZ
      rw [adA_1, adA_1, adA_1, adA_1, adA_1, hN]
      congr 1
      show L + bcN a + bcN b + bcN c + bcN e + bcN g = _
      omega
    refine wq_aload_n q175_71 rfl ?_
    refine wq_getI q175_72 rfl rfl ?_
    refine rI q175_75 rfl ?_
    rw [← e2] at h1
    exact h1 c39
  · rw [show (240 : Int32) = nI 240 from rfl, nI_leI (by omega) (by omega)] at c39
    refine wq_iconst q175_42 ?_
    refine rI q175_43 rfl ?_
    exact h0 (by omega)
theorem c_rend {x : Int32} (h0 : ¬ (0 ≤ x ∧ x ≤ hi 58 6) → Q (some (.int 0)) (HP (up2 hi 58 0 0) hl f dr t)) (h1 : 0 ≤ x → x ≤ hi 58 6 → Q (some (.int 1)) (HP (up2 (up2 hi 58 0 0) 58 6 x) hl f dr t)) : Ct G (0, 0) d 176 [.ref 58, .int x] (HP hi hl f dr t) Q := by
  have e1 : hI (HP (up2 hi 58 0 0) hl f dr t) 58 6 = hi 58 6 := rfl
  refine Ct_of (ls := [_, _]) m_176.1.2.2.1 (Nat.le_of_ble_eq_true rfl) rfl ?_
  refine wq_aload_n q176_0 rfl ?_
  refine wq_iconst q176_1 ?_
  refine wq_putI q176_2 rfl rfl rfl rfl ?_
  refine wq_iload_n q176_5 rfl ?_
  refine wq_if_lt q176_6 (fun c6 => ?_) (fun c6 => ?_)
  · rw [hpS]
    refine wq_iconst q176_17 ?_
    refine rI q176_18 rfl ?_
    exact h0 (fun z => absurd z.1 (Int32.not_le.mpr c6))
  · rw [hpS]
    refine wq_iload_n q176_9 rfl ?_
    refine wq_aload_n q176_10 rfl ?_
    refine wq_getI q176_11 rfl rfl ?_
    refine wq_icmp_le q176_14 (fun c14 => ?_) (fun c14 => ?_)
    · rw [e1] at c14
      refine wq_aload_n q176_19 rfl ?_
      refine wq_iload_n q176_20 rfl ?_
      refine wq_putI q176_21 rfl rfl rfl rfl ?_
      refine wq_iconst q176_24 ?_
      refine rI q176_25 rfl ?_
      exact h1 (Int32.not_lt.mp c6) c14
    · rw [e1] at c14
      refine wq_iconst q176_17 ?_
      refine rI q176_18 rfl ?_
      exact h0 (fun z => c14 z.2)
end FEED
