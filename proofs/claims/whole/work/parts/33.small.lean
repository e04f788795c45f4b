/-! ACTS (more), DIARIES, WITNESSES, FORTS, PLANS: contracts -/
section DIARY
variable {G : ph_G} {d a r n f dr t : Nat} {hi : Nat → Nat → Int32} {hl : Nat → Nat → Int64} {Q : Option Value → ph_H → Prop}
/-- the latest act is brought back -/
def bbA (hi : Nat → Nat → Int32) (r nx kp : Nat) : Nat → Nat → Int32 := upC (up2 (up2 hi 48 1 (nI ((nx + 39) % 40))) 48 2 (nI (kp - 1))) r (va_cpy (hi 49) (hi r) ((nx + 39) % 40 * 33) 0 33)
theorem c_bringBack {nx kp : Nat} (hs : Scn (HP hi hl f dr t) a r) (hr : r ≠ 48 ∧ r ≠ 49) (h1 : hi 48 1 = nI nx) (h1' : nx < 40) (h2 : hi 48 2 = nI kp) (h2' : kp ≤ 40) (h2'' : 0 < kp) (hQ : Q none (HP (bbA hi r nx kp) hl f dr t)) : Ct G (0, 0) (d + 1) 3 [.ref 48, .ref a] (HP hi hl f dr t) Q := by
  obtain ⟨s1, s2, s3, s4⟩ := hs
  have e1 : hI (HP hi hl f dr t) 48 1 = nI nx := h1
  have e2 : hI (HP hi hl f dr t) 48 2 = nI kp := h2
  refine Ct_of (ls := [_, _]) m_3.1.2.2.1 (Nat.le_of_ble_eq_true rfl) rfl ?_
  refine wq_aload_n q3_0 rfl ?_
  refine wq_getI q3_1 rfl rfl ?_
  refine wq_if_le q3_4 (fun c4 => ?_) (fun c4 => ?_)
  · rw [e2] at c4
    exact absurd c4 (nI_nle h2'' (by omega))
  · have e3 : nI nx + 40 - 1 = nI (nx + 39) := by
      rw [show (40 : Int32) = nI 40 from rfl, nI_add]
      exact nI_pred (nx + 39)
    have e5 : nI (nx + 39) - nI (nx + 39) / 40 * 40 = nI ((nx + 39) % 40) := pk_rem (d := 40) (by omega) (by omega) (by omega)
    refine wq_aload_n q3_7 rfl ?_
    refine wq_aload_n q3_8 rfl ?_
    refine wq_getI q3_9 rfl rfl ?_
    refine wq_bipush q3_12 ?_
    refine wq_iadd q3_14 ?_
    refine wq_iconst q3_15 ?_
    refine wq_isub q3_16 ?_
    refine wq_bipush q3_17 ?_
    refine wq_irem q3_19 (by decide) ?_
    rw [e1, e3, e5]
    refine wq_putI q3_20 rfl rfl rfl rfl ?_
    refine wq_aload_n q3_23 rfl ?_
    refine wq_dup q3_24 rfl ?_
    refine wq_getI q3_25 rfl rfl ?_
    refine wq_iconst q3_28 ?_
    refine wq_isub q3_29 ?_
    have e6 : nI kp - 1 = nI (kp - 1) := by rw [show kp = kp - 1 + 1 by omega]; exact nI_pred (kp - 1)
    have e7 : hI (stI (HP hi hl f dr t) 48 1 (nI ((nx + 39) % 40))) 48 2 = nI kp := h2
    rw [e7, e6]
    refine wq_putI q3_30 (by first | exact s1 | exact s2 | rfl) rfl rfl rfl ?_
    refine wq_aload_n q3_33 rfl ?_
    refine wq_getR q3_34 (by first | exact s1 | exact s2 | rfl) rfl (by first | exact s1 | exact s2 | rfl) ?_
    refine wq_aload_n q3_37 rfl ?_
    refine wq_getI q3_38 (by first | exact s1 | exact s2 | rfl) rfl ?_
    refine wq_bipush q3_41 ?_
    refine wq_imul q3_43 ?_
    refine wq_aload_n q3_44 rfl ?_
    refine wq_getR q3_45 (by first | exact s1 | exact s2 | rfl) rfl (by first | exact s1 | exact s2 | rfl) ?_
    refine wq_iconst q3_48 ?_
    refine wq_bipush q3_49 ?_
    have hm : (nx + 39) % 40 < 40 := Nat.mod_lt _ (by decide)
    have e8 : hI (stI (stI (HP hi hl f dr t) 48 1 (nI ((nx + 39) % 40))) 48 2 (nI (kp - 1))) 48 1 = nI ((nx + 39) % 40) := rfl
    have e9 : nI ((nx + 39) % 40) * 33 = nI ((nx + 39) % 40 * 33) := pk_mul _ 33
    have e10 : (nI ((nx + 39) % 40 * 33)).toNatClampNeg = (nx + 39) % 40 * 33 := nI_clamp (by omega)
    rw [e8, e9]
    refine wq_copy q3_51 rfl s3 (nI_pos (by omega)) (by decide) (by decide) (by rw [e10]; show (nx + 39) % 40 * 33 + 33 ≤ 1320; omega) (by decide) rfl ⟨Nat.le.refl, Nat.le.refl, Nat.le_of_ble_eq_true rfl⟩ ?_
    rw [e10]
    refine rV q3_54 ?_
    have e11 : hI (stI (stI (HP hi hl f dr t) 48 1 (nI ((nx + 39) % 40))) 48 2 (nI (kp - 1))) r = hi r := by
      show up2 (up2 hi 48 1 _) 48 2 _ r = hi r
      rw [up2_o _ _ _ hr.1, up2_o _ _ _ hr.1]
    rw [e11]
    exact hQ
/-- a day's row in a diary at e -/
def dpA (hi : Nat → Nat → Int32) (e r dy : Nat) : Nat → Int32 := va_up (va_up (va_up (hi e) (dy % 100 * 3) (hi r 28)) (dy % 100 * 3 + 1) (hi r 29)) (dy % 100 * 3 + 2) (hi r 31)
theorem c_dput {dy : Nat} (hs : Scn (HP hi hl f dr t) a r) (hr : r ≠ 45) (h1 : hi r 32 = nI dy) (h1' : dy ≤ 9999) (hQ : Q none (HP (upC hi 45 (dpA hi 45 r dy)) hl f dr t)) : Ct G (0, 0) d 9 [.ref 44, .ref a] (HP hi hl f dr t) Q := by
  obtain ⟨s1, s2, s3, s4⟩ := hs
  have e1 : hI (HP hi hl f dr t) r 32 = nI dy := h1
  have e2 : nI dy - nI dy / 100 * 100 = nI (dy % 100) := pk_rem (d := 100) (by omega) (by omega) (by omega)
  have e3 : nI (dy % 100) * 3 = nI (dy % 100 * 3) := pk_mul _ 3
  have hm : dy % 100 < 100 := Nat.mod_lt _ (by decide)
  refine Ct_of (ls := [_, _, _]) m_9.1.2.2.1 (Nat.le_of_ble_eq_true rfl) rfl ?_
  refine wq_aload_n q9_0 rfl ?_
  refine wq_getR q9_1 (by first | exact s1 | exact s2 | exact s3 | rfl) rfl (by first | exact s1 | exact s2 | exact s3 | rfl) ?_
  refine wq_bipush q9_4 ?_
  refine aI q9_6 (by first | exact s1 | exact s2 | exact s3 | rfl) (rfl) (by decide) (by first | decide | omega) ?_
  refine wq_bipush q9_7 ?_
  refine wq_irem q9_9 (by decide) ?_
  refine wq_iconst q9_10 ?_
  refine wq_imul q9_11 ?_
  rw [e1, e2, e3]
  refine wq_istore_n (ls' := [_, _, _]) q9_12 rfl ?_
  refine wq_aload_n q9_13 rfl ?_
  refine wq_getR q9_14 (by first | exact s1 | exact s2 | exact s3 | rfl) rfl (by first | exact s1 | exact s2 | exact s3 | rfl) ?_
  refine wq_iload_n q9_17 rfl ?_
  refine wq_aload_n q9_18 rfl ?_
  refine wq_getR q9_19 (by first | exact s1 | exact s2 | exact s3 | rfl) rfl (by first | exact s1 | exact s2 | exact s3 | rfl) ?_
  refine wq_bipush q9_22 ?_
  refine aI q9_24 (by first | exact s1 | exact s2 | exact s3 | rfl) (rfl) (by decide) (by first | decide | omega) ?_
  refine sI q9_25 (by first | exact s1 | exact s2 | exact s3 | rfl) (rfl) (by show dy % 100 * 3 < 300; omega) (by first | decide | omega) (by first | exact s1 | exact s2 | exact s3 | rfl) ?_
  refine wq_aload_n q9_26 rfl ?_
  refine wq_getR q9_27 (by first | exact s1 | exact s2 | exact s3 | rfl) rfl (by first | exact s1 | exact s2 | exact s3 | rfl) ?_
  refine wq_iload_n q9_30 rfl ?_
  refine wq_iconst q9_31 ?_
  refine wq_iadd q9_32 ?_
  refine wq_aload_n q9_33 rfl ?_
  refine wq_getR q9_34 (by first | exact s1 | exact s2 | exact s3 | rfl) rfl (by first | exact s1 | exact s2 | exact s3 | rfl) ?_
  refine wq_bipush q9_37 ?_
  refine aI q9_39 (by first | exact s1 | exact s2 | exact s3 | rfl) (rfl) (by decide) (by first | decide | omega) ?_
  refine sI q9_40 (by first | exact s1 | exact s2 | exact s3 | rfl) (nI_1 _) (by show dy % 100 * 3 + 1 < 300; omega) (by first | decide | omega) (by first | exact s1 | exact s2 | exact s3 | rfl) ?_
  refine wq_aload_n q9_41 rfl ?_
  refine wq_getR q9_42 (by first | exact s1 | exact s2 | exact s3 | rfl) rfl (by first | exact s1 | exact s2 | exact s3 | rfl) ?_
  refine wq_iload_n q9_45 rfl ?_
  refine wq_iconst q9_46 ?_
  refine wq_iadd q9_47 ?_
  refine wq_aload_n q9_48 rfl ?_
  refine wq_getR q9_49 (by first | exact s1 | exact s2 | exact s3 | rfl) rfl (by first | exact s1 | exact s2 | exact s3 | rfl) ?_
  refine wq_bipush q9_52 ?_
  refine aI q9_54 (by first | exact s1 | exact s2 | exact s3 | rfl) (rfl) (by decide) (by first | decide | omega) ?_
  refine sI q9_55 (by first | exact s1 | exact s2 | exact s3 | rfl) (nI_add _ 2) (by show dy % 100 * 3 + 2 < 300; omega) (by first | decide | omega) (by first | exact s1 | exact s2 | exact s3 | rfl) ?_
  refine rV q9_56 ?_
  have g : ∀ (x : Nat → Int32), hI (stC (HP hi hl f dr t) 45 x) r = hi r := fun x => hI_Co _ x hr
  simp only [stI_C, hI_C, stC_C, g]
  exact hQ
theorem c_dentry {dd w : Nat} (hd : dd ≤ 9999) (hw : w < 3) (hQ : Q (some (.int (hi 45 (dd % 100 * 3 + w)))) (HP hi hl f dr t)) : Ct G (0, 0) d 10 [.ref 44, .int (nI dd), .int (nI w)] (HP hi hl f dr t) Q := by
  have e2 : nI dd - nI dd / 100 * 100 = nI (dd % 100) := pk_rem (d := 100) (by omega) (by omega) (by omega)
  have e3 : nI (dd % 100) * 3 = nI (dd % 100 * 3) := pk_mul _ 3
  have hm : dd % 100 < 100 := Nat.mod_lt _ (by decide)
  refine Ct_of (ls := [_, _, _]) m_10.1.2.2.1 (Nat.le_of_ble_eq_true rfl) rfl ?_
  refine wq_aload_n q10_0 rfl ?_
  refine wq_getR q10_1 rfl rfl rfl ?_
  refine wq_iload_n q10_4 rfl ?_
  refine wq_bipush q10_5 ?_
  refine wq_irem q10_7 (by decide) ?_
  refine wq_iconst q10_8 ?_
  refine wq_imul q10_9 ?_
  refine wq_iload_n q10_10 rfl ?_
  refine wq_iadd q10_11 ?_
  rw [e2, e3]
  refine aI q10_12 rfl (nI_add _ _) (by show dd % 100 * 3 + w < 300; omega) (by first | decide | omega) ?_
  refine rI q10_13 rfl ?_
  exact hQ
theorem c_dcopy {a1 a2 : Nat} (ha : (a1 = 44 ∧ a2 = 46) ∨ (a1 = 46 ∧ a2 = 44)) (hQ : Q none (HP (upC hi (a1 + 1) (va_cpy (hi (a2 + 1)) (hi (a1 + 1)) 0 0 300)) hl f dr t)) : Ct G (0, 0) (d + 1) 11 [.ref a1, .ref a2] (HP hi hl f dr t) Q := by
  refine Ct_of (ls := [_, _]) m_11.1.2.2.1 (Nat.le_of_ble_eq_true rfl) rfl ?_
  rcases ha with ⟨rfl, rfl⟩ | ⟨rfl, rfl⟩
  · refine wq_aload_n q11_0 rfl ?_
    refine wq_getR q11_1 rfl rfl rfl ?_
    refine wq_iconst q11_4 ?_
    refine wq_aload_n q11_5 rfl ?_
    refine wq_getR q11_6 rfl rfl rfl ?_
    refine wq_iconst q11_9 ?_
    refine wq_aload_n q11_10 rfl ?_
    refine wq_getR q11_11 rfl rfl rfl ?_
    refine wq_alen q11_14 rfl (by omega) ?_
    refine wq_copy q11_15 rfl rfl (by decide) (by decide) (by decide) (by decide) (by decide) rfl ⟨Nat.le.refl, Nat.le.refl, Nat.le_of_ble_eq_true rfl⟩ ?_
    refine rV q11_18 ?_
    exact hQ
  · refine wq_aload_n q11_0 rfl ?_
    refine wq_getR q11_1 rfl rfl rfl ?_
    refine wq_iconst q11_4 ?_
    refine wq_aload_n q11_5 rfl ?_
    refine wq_getR q11_6 rfl rfl rfl ?_
    refine wq_iconst q11_9 ?_
    refine wq_aload_n q11_10 rfl ?_
    refine wq_getR q11_11 rfl rfl rfl ?_
    refine wq_alen q11_14 rfl (by omega) ?_
    refine wq_copy q11_15 rfl rfl (by decide) (by decide) (by decide) (by decide) (by decide) rfl ⟨Nat.le.refl, Nat.le.refl, Nat.le_of_ble_eq_true rfl⟩ ?_
    refine rV q11_18 ?_
    exact hQ
/-! witnesses: 54, rows 55 and 56 -/
theorem c_wforget (hQ : Q none (HP (up2 (upC (upC hi 55 (fun i => if i < 7 then 0 else hi 55 i)) 56 (fun i => if i < 7 then 0 else hi 56 i)) 54 2 0) hl f dr t)) : Ct G (0, 0) (d + 1) 81 [.ref 54] (HP hi hl f dr t) Q := by
  refine Ct_of (ls := [_]) m_81.1.2.2.1 (Nat.le_of_ble_eq_true rfl) rfl ?_
  refine wq_aload_n q81_0 rfl ?_
  refine wq_getR q81_1 rfl rfl rfl ?_
  refine wq_iconst q81_4 ?_
  refine cS' (As := [_, _]) q81_5 m_322 rfl rfl rfl (c_fill (n := 7) rfl (by decide) rfl ?_)
  refine wq_aload_n q81_8 rfl ?_
  refine wq_getR q81_9 rfl rfl rfl ?_
  refine wq_iconst q81_12 ?_
  refine cS' (As := [_, _]) q81_13 m_322 rfl rfl rfl (c_fill (n := 7) rfl (by decide) rfl ?_)
  refine wq_aload_n q81_16 rfl ?_
  refine wq_iconst q81_17 ?_
  refine wq_putI q81_18 rfl rfl rfl rfl ?_
  refine rV q81_21 ?_
  exact hQ
theorem c_hear {p v : Nat} {w : Int32} (hp : p < 7) (hQ : Q none (HP (up2 (if w = 0 then up2 hi 56 p (hi 56 p ||| (1 <<< (nI v &&& 31))) else up2 hi 55 p (hi 55 p ||| (1 <<< (nI v &&& 31)))) 54 2 (hi 54 2 + 1)) hl f dr t)) : Ct G (0, 0) d 82 [.ref 54, .int (nI p), .int (nI v), .int w] (HP hi hl f dr t) Q := by
  refine Ct_of (ls := [_, _, _, _]) m_82.1.2.2.1 (Nat.le_of_ble_eq_true rfl) rfl ?_
  refine wq_iload_n q82_0 rfl ?_
  refine wq_if_eq q82_1 (fun c1 => ?_) (fun c1 => ?_)
  · refine wq_aload_n q82_19 rfl ?_
    refine wq_getR q82_20 rfl rfl rfl ?_
    refine wq_iload_n q82_23 rfl ?_
    refine wq_dup2 q82_24 rfl rfl ?_
    refine aI q82_25 rfl (rfl) (by show p < 7; omega) (by first | decide | omega) ?_
    refine wq_iconst q82_26 ?_
    refine wq_iload_n q82_27 rfl ?_
    refine wq_ishl q82_28 ?_
    refine wq_ior q82_29 ?_
    refine sI q82_30 rfl (rfl) (by show p < 7; omega) (by first | decide | omega) rfl ?_
    refine wq_aload_n q82_31 rfl ?_
    refine wq_dup q82_32 rfl ?_
    refine wq_getI q82_33 rfl rfl ?_
    refine wq_iconst q82_36 ?_
    refine wq_iadd q82_37 ?_
    refine wq_putI q82_38 rfl rfl rfl rfl ?_
    refine rV q82_41 ?_
    rw [if_pos c1] at hQ
    exact hQ
  · refine wq_aload_n q82_4 rfl ?_
    refine wq_getR q82_5 rfl rfl rfl ?_
    refine wq_iload_n q82_8 rfl ?_
    refine wq_dup2 q82_9 rfl rfl ?_
    refine aI q82_10 rfl (rfl) (by show p < 7; omega) (by first | decide | omega) ?_
    refine wq_iconst q82_11 ?_
    refine wq_iload_n q82_12 rfl ?_
    refine wq_ishl q82_13 ?_
    refine wq_ior q82_14 ?_
    refine sI q82_15 rfl (rfl) (by show p < 7; omega) (by first | decide | omega) rfl ?_
    refine wq_goto q82_16 ?_
    refine wq_aload_n q82_31 rfl ?_
    refine wq_dup q82_32 rfl ?_
    refine wq_getI q82_33 rfl rfl ?_
    refine wq_iconst q82_36 ?_
    refine wq_iadd q82_37 ?_
    refine wq_putI q82_38 rfl rfl rfl rfl ?_
    refine rV q82_41 ?_
    rw [if_neg c1] at hQ
    exact hQ
theorem c_spoke {p : Nat} (hp : p < 7) (hQ : Q (some (.int (if hi 55 p ||| hi 56 p = 0 then 0 else 1))) (HP hi hl f dr t)) : Ct G (0, 0) d 83 [.ref 54, .int (nI p)] (HP hi hl f dr t) Q := by
  refine Ct_of (ls := [_, _]) m_83.1.2.2.1 (Nat.le_of_ble_eq_true rfl) rfl ?_
  refine wq_aload_n q83_0 rfl ?_
  refine wq_getR q83_1 rfl rfl rfl ?_
  refine wq_iload_n q83_4 rfl ?_
  refine aI q83_5 rfl (rfl) (by show p < 7; omega) (by first | decide | omega) ?_
  refine wq_aload_n q83_6 rfl ?_
  refine wq_getR q83_7 rfl rfl rfl ?_
  refine wq_iload_n q83_10 rfl ?_
  refine aI q83_11 rfl (rfl) (by show p < 7; omega) (by first | decide | omega) ?_
  refine wq_ior q83_12 ?_
  refine wq_if_eq q83_13 (fun c13 => ?_) (fun c13 => ?_)
  · refine wq_iconst q83_20 ?_
    refine rI q83_21 rfl ?_
    rw [if_pos (show hi 55 p ||| hi 56 p = 0 from c13)] at hQ
    exact hQ
  · refine wq_iconst q83_16 ?_
    refine wq_goto q83_17 ?_
    refine rI q83_21 rfl ?_
    rw [if_neg (show ¬ (hi 55 p ||| hi 56 p = 0) from c13)] at hQ
    exact hQ
def liB (w wn : Int32) (tr : Int32) : Bool := decide (¬ ((w &&& (tr ^^^ (-1))) ||| (wn &&& tr) = 0))
theorem c_lies {p : Nat} {tr : Int32} (hp : p < 7) (hQ : Q (some (.int (if liB (hi 55 p) (hi 56 p) tr = true then 1 else 0))) (HP hi hl f dr t)) : Ct G (0, 0) d 84 [.ref 54, .int (nI p), .int tr] (HP hi hl f dr t) Q := by
  refine Ct_of (ls := [_, _, _]) m_84.1.2.2.1 (Nat.le_of_ble_eq_true rfl) rfl ?_
  refine wq_aload_n q84_0 rfl ?_
  refine wq_getR q84_1 rfl rfl rfl ?_
  refine wq_iload_n q84_4 rfl ?_
  refine aI q84_5 rfl (rfl) (by show p < 7; omega) (by first | decide | omega) ?_
  refine wq_iload_n q84_6 rfl ?_
  refine wq_iconst q84_7 ?_
  refine wq_ixor q84_8 ?_
  refine wq_iand q84_9 ?_
  refine wq_aload_n q84_10 rfl ?_
  refine wq_getR q84_11 rfl rfl rfl ?_
  refine wq_iload_n q84_14 rfl ?_
  refine aI q84_15 rfl (rfl) (by show p < 7; omega) (by first | decide | omega) ?_
  refine wq_iload_n q84_16 rfl ?_
  refine wq_iand q84_17 ?_
  refine wq_ior q84_18 ?_
  refine wq_if_eq q84_19 (fun c19 => ?_) (fun c19 => ?_)
  · refine wq_iconst q84_26 ?_
    refine rI q84_27 rfl ?_
    rw [if_neg (by simp only [liB, decide_eq_true_eq]; exact fun z => z c19)] at hQ
    exact hQ
  · refine wq_iconst q84_22 ?_
    refine wq_goto q84_23 ?_
    refine rI q84_27 rfl ?_
    rw [if_pos (by simp only [liB, decide_eq_true_eq]; exact c19)] at hQ
    exact hQ
/-- who lies by a truth, as bits -/
def lbR (w wn : Nat → Int32) (tr : Int32) : Nat → Nat → Int32 → Int32
  | 0, _, b => b
  | m + 1, p, b => lbR w wn tr m (p + 1) (b ||| (if liB (w p) (wn p) tr = true then 1 <<< (nI p &&& 31) else 0))
theorem c_liarsBy_loop {tr : Int32} : ∀ (m p : Nat) (b : Int32), p + m = 7 → Q (some (.int (lbR (hi 55) (hi 56) tr m p b))) (HP hi hl f dr t) →
    wq G (0, 0) (d + 1) 85 4 [some (.ref 54), some (.int tr), some (.int b), some (.int (nI p))] [] (0, 0) (HP hi hl f dr t) Q := by
  intro m
  induction m with
  | zero =>
    intro p b hp hQ
    refine wq_iload_n q85_4 rfl ?_
    refine wq_bipush q85_5 ?_
    refine wq_icmp_ge q85_7 (fun c7 => ?_) (fun c7 => ?_)
    · refine wq_iload_n q85_35 rfl ?_
      refine rI q85_36 rfl ?_
      exact hQ
    · rw [show (7 : Int32) = nI 7 from rfl, nI_leI (by omega) (by omega)] at c7
      omega
  | succ m ih =>
    intro p b hp hQ
    rw [lbR] at hQ
    refine wq_iload_n q85_4 rfl ?_
    refine wq_bipush q85_5 ?_
    refine wq_icmp_ge q85_7 (fun c7 => ?_) (fun c7 => ?_)
    · rw [show (7 : Int32) = nI 7 from rfl, nI_leI (by omega) (by omega)] at c7
      omega
    · refine wq_iload_n q85_10 rfl ?_
      refine wq_aload_n q85_11 rfl ?_
      refine wq_iload_n q85_12 rfl ?_
      refine wq_iload_n q85_13 rfl ?_
      refine cV (As := [_, _]) q85_14 m_84 rfl rfl rfl ⟨by decide, rfl⟩ rfl (c_lies (by omega) ?_)
      refine wq_if_eq q85_17 (fun c17 => ?_) (fun c17 => ?_)
      · by_cases hc : liB (hi 55 p) (hi 56 p) tr = true
        · rw [if_pos hc] at c17
          exact absurd c17 (by decide)
        · rw [if_neg hc] at hQ
          refine wq_iconst q85_26 ?_
          refine wq_ior q85_27 ?_
          refine wq_istore_n (ls' := [_, _, _, _]) q85_28 rfl ?_
          refine wq_iinc (ls' := [_, _, _, _]) q85_29 rfl rfl ?_
          refine wq_goto q85_32 ?_
          rw [nI_1]
          exact ih (p + 1) _ (by omega) hQ
      · by_cases hc : liB (hi 55 p) (hi 56 p) tr = true
        · rw [if_pos hc] at hQ
          refine wq_iconst q85_20 ?_
          refine wq_iload_n q85_21 rfl ?_
          refine wq_ishl q85_22 ?_
          refine wq_goto q85_23 ?_
          refine wq_ior q85_27 ?_
          refine wq_istore_n (ls' := [_, _, _, _]) q85_28 rfl ?_
          refine wq_iinc (ls' := [_, _, _, _]) q85_29 rfl rfl ?_
          refine wq_goto q85_32 ?_
          rw [nI_1]
          exact ih (p + 1) _ (by omega) hQ
        · rw [if_neg hc] at c17
          exact absurd rfl c17
theorem c_liarsBy {tr : Int32} (hQ : Q (some (.int (lbR (hi 55) (hi 56) tr 7 0 0))) (HP hi hl f dr t)) : Ct G (0, 0) (d + 1) 85 [.ref 54, .int tr] (HP hi hl f dr t) Q := by
  refine Ct_of (ls := [_, _, _, _]) m_85.1.2.2.1 (Nat.le_of_ble_eq_true rfl) rfl ?_
  refine wq_iconst q85_0 ?_
  refine wq_istore_n (ls' := [_, _, _, _]) q85_1 rfl ?_
  refine wq_iconst q85_2 ?_
  refine wq_istore_n (ls' := [_, _, _, _]) q85_3 rfl ?_
  exact c_liarsBy_loop 7 0 0 (by omega) hQ
end DIARY
/-- a fort at a, its rows behind it -/
def Frt (h : ph_H) (a : Nat) : Prop := (hS h)[a]? = some (3, 6) ∧ hR h a 0 = some (a + 1) ∧ hR h a 1 = some (a + 2) ∧ hR h a 2 = some (a + 3) ∧ (hS h)[a + 1]? = some (100, 4) ∧ (hS h)[a + 2]? = some (100, 35) ∧ (hS h)[a + 3]? = some (100, 12)
section FORT
variable {G : ph_G} {d a r n : Nat} {h : ph_H} {Q : Option Value → ph_H → Prop}
theorem c_window (hf : Frt h a) (hQ : Q (some (.int (hI h (a + 1) 0))) h) : Ct G (0, 0) d 16 [.ref a] h Q := by
  obtain ⟨f1, f2, f3, f4, f5, f6, f7⟩ := hf
  refine Ct_of (ls := [_]) m_16.1.2.2.1 (Nat.le_of_ble_eq_true rfl) rfl ?_
  refine wq_aload_n q16_0 rfl ?_
  refine wq_getR q16_1 (by first | exact f1 | exact f2 | exact f5 | rfl) rfl (by first | exact f1 | exact f2 | exact f5 | rfl) ?_
  refine wq_iconst q16_4 ?_
  refine aI q16_5 (by first | exact f1 | exact f2 | exact f5 | rfl) (rfl) (by decide) (by first | decide | omega) ?_
  refine rI q16_6 rfl ?_
  exact hQ
theorem c_loud (hf : Frt h a) (hQ : Q (some (.int (hI h (a + 1) 1))) h) : Ct G (0, 0) d 17 [.ref a] h Q := by
  obtain ⟨f1, f2, f3, f4, f5, f6, f7⟩ := hf
  refine Ct_of (ls := [_]) m_17.1.2.2.1 (Nat.le_of_ble_eq_true rfl) rfl ?_
  refine wq_aload_n q17_0 rfl ?_
  refine wq_getR q17_1 (by first | exact f1 | exact f2 | exact f5 | rfl) rfl (by first | exact f1 | exact f2 | exact f5 | rfl) ?_
  refine wq_iconst q17_4 ?_
  refine aI q17_5 (by first | exact f1 | exact f2 | exact f5 | rfl) (rfl) (by decide) (by first | decide | omega) ?_
  refine rI q17_6 rfl ?_
  exact hQ
theorem c_worn (hf : Frt h a) (hQ : Q (some (.int (hI h (a + 1) 2))) h) : Ct G (0, 0) d 18 [.ref a] h Q := by
  obtain ⟨f1, f2, f3, f4, f5, f6, f7⟩ := hf
  refine Ct_of (ls := [_]) m_18.1.2.2.1 (Nat.le_of_ble_eq_true rfl) rfl ?_
  refine wq_aload_n q18_0 rfl ?_
  refine wq_getR q18_1 (by first | exact f1 | exact f2 | exact f5 | rfl) rfl (by first | exact f1 | exact f2 | exact f5 | rfl) ?_
  refine wq_iconst q18_4 ?_
  refine aI q18_5 (by first | exact f1 | exact f2 | exact f5 | rfl) (rfl) (by decide) (by first | decide | omega) ?_
  refine rI q18_6 rfl ?_
  exact hQ
theorem c_cost (hf : Frt h a) (hQ : Q (some (.int (hI h (a + 1) 3))) h) : Ct G (0, 0) d 19 [.ref a] h Q := by
  obtain ⟨f1, f2, f3, f4, f5, f6, f7⟩ := hf
  refine Ct_of (ls := [_]) m_19.1.2.2.1 (Nat.le_of_ble_eq_true rfl) rfl ?_
  refine wq_aload_n q19_0 rfl ?_
  refine wq_getR q19_1 (by first | exact f1 | exact f2 | exact f5 | rfl) rfl (by first | exact f1 | exact f2 | exact f5 | rfl) ?_
  refine wq_iconst q19_4 ?_
  refine aI q19_5 (by first | exact f1 | exact f2 | exact f5 | rfl) (rfl) (by decide) (by first | decide | omega) ?_
  refine rI q19_6 rfl ?_
  exact hQ
theorem c_thick {c : Nat} (hf : Frt h a) (hc : c < 7) (hQ : Q (some (.int (hI h (a + 2) (c * 5)))) h) : Ct G (0, 0) d 20 [.ref a, .int (nI c)] h Q := by
  obtain ⟨f1, f2, f3, f4, f5, f6, f7⟩ := hf
  refine Ct_of (ls := [_, _]) m_20.1.2.2.1 (Nat.le_of_ble_eq_true rfl) rfl ?_
  refine wq_aload_n q20_0 rfl ?_
  refine wq_getR q20_1 (by first | exact f1 | exact f3 | exact f6 | rfl) rfl (by first | exact f1 | exact f3 | exact f6 | rfl) ?_
  refine wq_iload_n q20_4 rfl ?_
  refine wq_iconst q20_5 ?_
  refine wq_imul q20_6 ?_
  refine aI q20_7 (by first | exact f1 | exact f3 | exact f6 | rfl) (pk_mul _ 5) (by omega) (by first | decide | omega) ?_
  refine rI q20_8 rfl ?_
  exact hQ
theorem c_merit {c : Nat} (hf : Frt h a) (hc : c < 7) (hQ : Q (some (.int (hI h (a + 2) (c * 5 + 1)))) h) : Ct G (0, 0) d 21 [.ref a, .int (nI c)] h Q := by
  obtain ⟨f1, f2, f3, f4, f5, f6, f7⟩ := hf
  have e : nI c * 5 + 1 = nI (c * 5 + 1) := by rw [show (5 : Int32) = nI 5 from rfl, pk_mul]; exact nI_1 _
  refine Ct_of (ls := [_, _]) m_21.1.2.2.1 (Nat.le_of_ble_eq_true rfl) rfl ?_
  refine wq_aload_n q21_0 rfl ?_
  refine wq_getR q21_1 (by first | exact f1 | exact f3 | exact f6 | rfl) rfl (by first | exact f1 | exact f3 | exact f6 | rfl) ?_
  refine wq_iload_n q21_4 rfl ?_
  refine wq_iconst q21_5 ?_
  refine wq_imul q21_6 ?_
  refine wq_iconst q21_7 ?_
  refine wq_iadd q21_8 ?_
  refine aI q21_9 (by first | exact f1 | exact f3 | exact f6 | rfl) (e) (by omega) (by first | decide | omega) ?_
  refine rI q21_10 rfl ?_
  exact hQ
theorem c_honesty {c : Nat} (hf : Frt h a) (hc : c < 7) (hQ : Q (some (.int (hI h (a + 2) (c * 5 + 2)))) h) : Ct G (0, 0) d 22 [.ref a, .int (nI c)] h Q := by
  obtain ⟨f1, f2, f3, f4, f5, f6, f7⟩ := hf
  have e : nI c * 5 + 2 = nI (c * 5 + 2) := by rw [show (5 : Int32) = nI 5 from rfl, pk_mul]; exact nI_add _ 2
  refine Ct_of (ls := [_, _]) m_22.1.2.2.1 (Nat.le_of_ble_eq_true rfl) rfl ?_
  refine wq_aload_n q22_0 rfl ?_
  refine wq_getR q22_1 (by first | exact f1 | exact f3 | exact f6 | rfl) rfl (by first | exact f1 | exact f3 | exact f6 | rfl) ?_
  refine wq_iload_n q22_4 rfl ?_
  refine wq_iconst q22_5 ?_
  refine wq_imul q22_6 ?_
  refine wq_iconst q22_7 ?_
  refine wq_iadd q22_8 ?_
  refine aI q22_9 (by first | exact f1 | exact f3 | exact f6 | rfl) (e) (by omega) (by first | decide | omega) ?_
  refine rI q22_10 rfl ?_
  exact hQ
theorem c_leavesOut {c : Nat} (hf : Frt h a) (hc : c < 7) (hQ : Q (some (.int (if hI h (a + 2) (c * 5 + 3) < hI h a 4 then hI h (a + 2) (c * 5 + 3) else -1))) h) : Ct G (0, 0) d 23 [.ref a, .int (nI c)] h Q := by
  obtain ⟨f1, f2, f3, f4, f5, f6, f7⟩ := hf
  have e : nI c * 5 + 3 = nI (c * 5 + 3) := by rw [show (5 : Int32) = nI 5 from rfl, pk_mul]; exact nI_add _ 3
  refine Ct_of (ls := [_, _, _]) m_23.1.2.2.1 (Nat.le_of_ble_eq_true rfl) rfl ?_
  refine wq_aload_n q23_0 rfl ?_
  refine wq_getR q23_1 (by first | exact f1 | exact f3 | exact f6 | rfl) rfl (by first | exact f1 | exact f3 | exact f6 | rfl) ?_
  refine wq_iload_n q23_4 rfl ?_
  refine wq_iconst q23_5 ?_
  refine wq_imul q23_6 ?_
  refine wq_iconst q23_7 ?_
  refine wq_iadd q23_8 ?_
  refine aI q23_9 (by first | exact f1 | exact f3 | exact f6 | rfl) (e) (by omega) (by first | decide | omega) ?_
  refine wq_istore_n (ls' := [_, _, _]) q23_10 rfl ?_
  refine wq_iload_n q23_11 rfl ?_
  refine wq_aload_n q23_12 rfl ?_
  refine wq_getI q23_13 (by first | exact f1 | exact f3 | exact f6 | rfl) rfl ?_
  refine wq_icmp_ge q23_16 (fun c16 => ?_) (fun c16 => ?_)
  · rw [if_neg (Int32.not_lt.mpr c16)] at hQ
    refine wq_iconst q23_23 ?_
    refine rI q23_24 rfl ?_
    exact hQ
  · rw [if_pos (Int32.not_le.mp c16)] at hQ
    refine wq_iload_n q23_19 rfl ?_
    refine wq_goto q23_20 ?_
    refine rI q23_24 rfl ?_
    exact hQ
theorem c_breadAtFirst {c : Nat} (hf : Frt h a) (hc : c < 7) (hQ : Q (some (.int (hI h (a + 2) (c * 5 + 4)))) h) : Ct G (0, 0) d 24 [.ref a, .int (nI c)] h Q := by
  obtain ⟨f1, f2, f3, f4, f5, f6, f7⟩ := hf
  have e : nI c * 5 + 4 = nI (c * 5 + 4) := by rw [show (5 : Int32) = nI 5 from rfl, pk_mul]; exact nI_add _ 4
  refine Ct_of (ls := [_, _]) m_24.1.2.2.1 (Nat.le_of_ble_eq_true rfl) rfl ?_
  refine wq_aload_n q24_0 rfl ?_
  refine wq_getR q24_1 (by first | exact f1 | exact f3 | exact f6 | rfl) rfl (by first | exact f1 | exact f3 | exact f6 | rfl) ?_
  refine wq_iload_n q24_4 rfl ?_
  refine wq_iconst q24_5 ?_
  refine wq_imul q24_6 ?_
  refine wq_iconst q24_7 ?_
  refine wq_iadd q24_8 ?_
  refine aI q24_9 (by first | exact f1 | exact f3 | exact f6 | rfl) (e) (by omega) (by first | decide | omega) ?_
  refine rI q24_10 rfl ?_
  exact hQ
theorem c_knocks {c : Nat} (hf : Frt h a) (hc : c < 6) (hQ : Q (some (.int (hI h (a + 3) (c * 2)))) h) : Ct G (0, 0) d 25 [.ref a, .int (nI c)] h Q := by
  obtain ⟨f1, f2, f3, f4, f5, f6, f7⟩ := hf
  refine Ct_of (ls := [_, _]) m_25.1.2.2.1 (Nat.le_of_ble_eq_true rfl) rfl ?_
  refine wq_aload_n q25_0 rfl ?_
  refine wq_getR q25_1 (by first | exact f1 | exact f4 | exact f7 | rfl) rfl (by first | exact f1 | exact f4 | exact f7 | rfl) ?_
  refine wq_iload_n q25_4 rfl ?_
  refine wq_iconst q25_5 ?_
  refine wq_imul q25_6 ?_
  refine aI q25_7 (by first | exact f1 | exact f4 | exact f7 | rfl) (pk_mul _ 2) (by omega) (by first | decide | omega) ?_
  refine rI q25_8 rfl ?_
  exact hQ
theorem c_chance {c : Nat} (hf : Frt h a) (hc : c < 6) (hQ : Q (some (.int (hI h (a + 3) (c * 2 + 1)))) h) : Ct G (0, 0) d 26 [.ref a, .int (nI c)] h Q := by
  obtain ⟨f1, f2, f3, f4, f5, f6, f7⟩ := hf
  have e : nI c * 2 + 1 = nI (c * 2 + 1) := by rw [show (2 : Int32) = nI 2 from rfl, pk_mul]; exact nI_1 _
  refine Ct_of (ls := [_, _]) m_26.1.2.2.1 (Nat.le_of_ble_eq_true rfl) rfl ?_
  refine wq_aload_n q26_0 rfl ?_
  refine wq_getR q26_1 (by first | exact f1 | exact f4 | exact f7 | rfl) rfl (by first | exact f1 | exact f4 | exact f7 | rfl) ?_
  refine wq_iload_n q26_4 rfl ?_
  refine wq_iconst q26_5 ?_
  refine wq_imul q26_6 ?_
  refine wq_iconst q26_7 ?_
  refine wq_iadd q26_8 ?_
  refine aI q26_9 (by first | exact f1 | exact f4 | exact f7 | rfl) (e) (by omega) (by first | decide | omega) ?_
  refine rI q26_10 rfl ?_
  exact hQ
/-- a plan's part -/
theorem c_part {i w : Nat} (p1 : (hS h)[a]? = some (6, 2)) (p2 : hR h a 0 = some r) (p3 : (hS h)[r]? = some (100, 48)) (hi' : i < 16) (hw : w < 3) (hQ : Q (some (.int (hI h r (i * 3 + w)))) h) : Ct G (0, 0) d 52 [.ref a, .int (nI i), .int (nI w)] h Q := by
  have e : nI i * 3 + nI w = nI (i * 3 + w) := by rw [show (3 : Int32) = nI 3 from rfl, pk_mul]; exact nI_add _ _
  refine Ct_of (ls := [_, _, _]) m_52.1.2.2.1 (Nat.le_of_ble_eq_true rfl) rfl ?_
  refine wq_aload_n q52_0 rfl ?_
  refine wq_getR q52_1 (by first | exact p1 | exact p2 | exact p3 | rfl) rfl (by first | exact p1 | exact p2 | exact p3 | rfl) ?_
  refine wq_iload_n q52_4 rfl ?_
  refine wq_iconst q52_5 ?_
  refine wq_imul q52_6 ?_
  refine wq_iload_n q52_7 rfl ?_
  refine wq_iadd q52_8 ?_
  refine aI q52_9 (by first | exact p1 | exact p2 | exact p3 | rfl) (e) (by omega) (by first | decide | omega) ?_
  refine rI q52_10 rfl ?_
  exact hQ
/-- a fort opens: the row of a scene -/
def opA (row cb : Nat → Int32) (k : Nat) : Nat → Int32 := fun j => if j < k then nI j else if 7 ≤ j ∧ j < 7 + k then cb ((j - 7) * 5 + 4) else if j < 33 then 0 else row j
theorem opA_up (row cb : Nat → Int32) {k : Nat} (hk : k < 7) : va_up (va_up (opA row cb k) k (nI k)) (7 + k) (cb (k * 5 + 4)) = opA row cb (k + 1) := by
  funext j
  by_cases h1 : j = 7 + k
  · subst h1
    simp only [va_up, if_pos, opA]
    rw [if_neg (by omega), if_pos (by omega), show 7 + k - 7 = k by omega]
  · by_cases h2 : j = k
    · subst h2
      simp only [va_up, if_neg h1, if_pos, opA]
      rw [if_pos (by omega)]
    · simp only [va_up, if_neg h1, if_neg h2, opA]
      by_cases h3 : j < k
      · rw [if_pos h3, if_pos (show j < k + 1 by omega)]
      · rw [if_neg h3, if_neg (show ¬ j < k + 1 by omega)]
        by_cases h4 : 7 ≤ j ∧ j < 7 + k
        · rw [if_pos h4, if_pos (show 7 ≤ j ∧ j < 7 + (k + 1) by omega)]
        · rw [if_neg h4, if_neg (show ¬ (7 ≤ j ∧ j < 7 + (k + 1)) by omega)]
theorem c_open_loop {fa : Nat} (hs : Scn h a r) (hf : Frt h fa) (hn : n ≤ 7) (hc : hI h fa 3 = nI n) (hr1 : fa ≠ r) (hr2 : fa + 2 ≠ r) : ∀ (m k : Nat), k + m = n → Q none (stC h r (opA (hI h r) (hI h (fa + 2)) n)) →
    wq G (0, 0) (d + 1) 54 10 [some (.ref a), some (.ref fa), some (.int (nI k))] [] (0, 0) (stC h r (opA (hI h r) (hI h (fa + 2)) k)) Q := by
  have hf0 := hf
  obtain ⟨s1, s2, s3, s4⟩ := hs
  obtain ⟨f1, f2, f3, f4, f5, f6, f7⟩ := hf
  have g1 : ∀ x, hI (stC h r x) fa 3 = nI n := fun x => by rw [hI_Co _ _ hr1]; exact hc
  have g2 : ∀ x, hI (stC h r x) (fa + 2) = hI h (fa + 2) := fun x => hI_Co _ _ hr2
  intro m
  induction m with
  | zero =>
    intro k hk hQ
    refine wq_iload_n q54_10 rfl ?_
    refine wq_aload_n q54_11 rfl ?_
    refine wq_getI q54_12 (by first | exact f1 | exact s1 | rfl) rfl ?_
    refine wq_icmp_ge q54_15 (fun c15 => ?_) (fun c15 => ?_)
    · refine rV q54_47 ?_
      have : k = n := by omega
      subst this
      exact hQ
    · rw [g1, nI_leI (by omega) (by omega)] at c15
      omega
  | succ m ih =>
    intro k hk hQ
    refine wq_iload_n q54_10 rfl ?_
    refine wq_aload_n q54_11 rfl ?_
    refine wq_getI q54_12 (by first | exact f1 | exact s1 | rfl) rfl ?_
    refine wq_icmp_ge q54_15 (fun c15 => ?_) (fun c15 => ?_)
    · rw [g1, nI_leI (by omega) (by omega)] at c15
      omega
    · refine wq_aload_n q54_18 rfl ?_
      refine wq_getR q54_19 (by first | exact s1 | exact s2 | exact s3 | exact s4 | exact f1 | rfl) rfl (by first | exact s1 | exact s2 | exact s3 | exact s4 | exact f1 | rfl) ?_
      refine wq_iconst q54_22 ?_
      refine wq_iload_n q54_23 rfl ?_
      refine wq_iadd q54_24 ?_
      refine wq_iload_n q54_25 rfl ?_
      refine sI q54_26 (by first | exact s1 | exact s2 | exact s3 | exact s4 | exact f1 | rfl) ((by rw [show (0 : Int32) = nI 0 from rfl, nI_add, Nat.zero_add])) (by omega) (by first | decide | omega) (by first | exact s1 | exact s2 | exact s3 | exact s4 | exact f1 | rfl) ?_
      refine wq_aload_n q54_27 rfl ?_
      refine wq_getR q54_28 (by first | exact s1 | exact s2 | exact s3 | exact s4 | exact f1 | rfl) rfl (by first | exact s1 | exact s2 | exact s3 | exact s4 | exact f1 | rfl) ?_
      refine wq_bipush q54_31 ?_
      refine wq_iload_n q54_33 rfl ?_
      refine wq_iadd q54_34 ?_
      refine wq_aload_n q54_35 rfl ?_
      refine wq_iload_n q54_36 rfl ?_
      refine cV (As := [_]) q54_37 m_24 rfl rfl (by first | exact s1 | exact s2 | exact s3 | exact s4 | exact f1 | rfl) ⟨by decide, rfl⟩ rfl (c_breadAtFirst (by exact hf0) (by omega) ?_)
      rw [stI_C, hI_C, stC_C, g2]
      refine sI q54_40 (by first | exact s1 | exact s2 | exact s3 | exact s4 | rfl) (nI_add 7 _) (by omega) (by first | decide | omega) (by first | exact s1 | exact s2 | exact s3 | exact s4 | rfl) ?_
      refine wq_iinc (ls' := [_, _, _]) q54_41 rfl rfl ?_
      refine wq_goto q54_44 ?_
      rw [nI_1, stI_C, hI_C, stC_C, opA_up _ _ (by omega)]
      exact ih (k + 1) (by omega) hQ
theorem c_open {fa : Nat} (hs : Scn h a r) (hf : Frt h fa) (hn : n ≤ 7) (hc : hI h fa 3 = nI n) (hr1 : fa ≠ r) (hr2 : fa + 2 ≠ r) (hQ : Q none (stC h r (opA (hI h r) (hI h (fa + 2)) n))) : Ct G (0, 0) (d + 1) 54 [.ref a, .ref fa] h Q := by
  have hs' := hs
  obtain ⟨s1, s2, s3, s4⟩ := hs
  refine Ct_of (ls := [_, _, _]) m_54.1.2.2.1 (Nat.le_of_ble_eq_true rfl) rfl ?_
  refine wq_aload_n q54_0 rfl ?_
  refine wq_getR q54_1 (by first | exact s1 | exact s2 | rfl) rfl (by first | exact s1 | exact s2 | rfl) ?_
  refine wq_iconst q54_4 ?_
  refine cS' (As := [_, _]) q54_5 m_322 rfl rfl rfl (c_fill (n := 33) s3 (by decide) s4 ?_)
  refine wq_iconst q54_8 ?_
  refine wq_istore_n (ls' := [_, _, _]) q54_9 rfl ?_
  have := c_open_loop (G := G) (d := d) (n := n) hs' hf hn hc hr1 hr2 n 0 (by omega) hQ
  rw [show opA (hI h r) (hI h (fa + 2)) 0 = fun i => if i < 33 then 0 else hI h r i by funext j; simp only [opA]; rw [if_neg (by omega), if_neg (by omega)]] at this
  exact this
end FORT
