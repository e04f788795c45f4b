/-! SCENES (more), ACTS, DIARIES, WITNESSES -/
def upC (hi : Nat → Nat → Int32) (a : Nat) (F : Nat → Int32) : Nat → Nat → Int32 := fun b => if b = a then F else hi b
theorem upC_s (hi : Nat → Nat → Int32) (a : Nat) (F : Nat → Int32) : upC hi a F a = F := if_pos rfl
theorem upC_o (hi : Nat → Nat → Int32) {a b : Nat} (F : Nat → Int32) (h : b ≠ a) : upC hi a F b = hi b := if_neg h
theorem upC_C (hi : Nat → Nat → Int32) (a : Nat) (F F' : Nat → Int32) : upC (upC hi a F) a F' = upC hi a F' := by
  funext b; by_cases h : b = a <;> simp [upC, h]
theorem upC_comm (hi : Nat → Nat → Int32) {a b : Nat} (F F' : Nat → Int32) (h : a ≠ b) : upC (upC hi a F) b F' = upC (upC hi b F') a F := by
  funext c
  by_cases h1 : c = a
  · subst h1
    simp [upC, h]
  · by_cases h2 : c = b
    · subst h2
      simp [upC, h1]
    · simp [upC, h1, h2]
theorem upC_self (hi : Nat → Nat → Int32) (a : Nat) {F : Nat → Int32} (h : F = hi a) : upC hi a F = hi := by
  subst h; funext b; by_cases hb : b = a <;> simp [upC, hb]
theorem hpC (hi : Nat → Nat → Int32) (hl : Nat → Nat → Int64) (f dr t a : Nat) (F : Nat → Int32) : stC (HP hi hl f dr t) a F = HP (upC hi a F) hl f dr t := rfl
theorem up2_C (hi : Nat → Nat → Int32) (a i : Nat) (x : Int32) : up2 hi a i x = upC hi a (va_up (hi a) i x) := rfl
section SCENE2
variable {G : ph_G} {d a r n : Nat} {h : ph_H} {Q : Option Value → ph_H → Prop}
/-- a day ends -/
def edA (row : Nat → Int32) (k : Nat) : Nat → Int32 := fun j => if 21 ≤ j ∧ j < 21 + k then 0 else row j
def edR (row : Nat → Int32) : Nat → Int32 := va_up (va_up (va_up (va_up (edA row 7) 28 0) 29 0) 30 0) 32 (row 32 + 1)
theorem edA_up (row : Nat → Int32) (k : Nat) : va_up (edA row k) (21 + k) 0 = edA row (k + 1) := by
  funext j
  by_cases h1 : j = 21 + k
  · subst h1; simp [va_up, edA]
  · simp only [va_up, if_neg h1, edA]
    by_cases h2 : 21 ≤ j ∧ j < 21 + k
    · rw [if_pos h2, if_pos (by omega)]
    · rw [if_neg h2, if_neg (by omega)]
theorem c_endDay_loop (hs : Scn h a r) : ∀ (m k : Nat), k + m = 7 → Q none (stC h r (edR (hI h r))) →
    wq G (0, 0) d 63 2 [some (.ref a), some (.int (nI k))] [] (0, 0) (stC h r (edA (hI h r) k)) Q := by
  obtain ⟨s1, s2, s3, s4⟩ := hs
  intro m
  induction m with
  | zero =>
    intro k hk hQ
    refine wq_iload_n q63_2 rfl ?_
    refine wq_bipush q63_3 ?_
    refine wq_icmp_ge q63_5 (fun c5 => ?_) (fun c5 => ?_)
    · refine wq_aload_n q63_24 rfl ?_
      refine wq_getR q63_25 (by first | exact s1 | exact s2 | exact s3 | exact s4 | rfl) rfl (by first | exact s1 | exact s2 | exact s3 | exact s4 | rfl) ?_
      refine wq_bipush q63_28 ?_
      refine wq_iconst q63_30 ?_
      refine sI q63_31 (by first | exact s1 | exact s2 | exact s3 | exact s4 | rfl) (rfl) (by decide) (by first | decide | omega) (by first | exact s1 | exact s2 | exact s3 | exact s4 | rfl) ?_
      refine wq_aload_n q63_32 rfl ?_
      refine wq_getR q63_33 (by first | exact s1 | exact s2 | exact s3 | exact s4 | rfl) rfl (by first | exact s1 | exact s2 | exact s3 | exact s4 | rfl) ?_
      refine wq_bipush q63_36 ?_
      refine wq_iconst q63_38 ?_
      refine sI q63_39 (by first | exact s1 | exact s2 | exact s3 | exact s4 | rfl) (rfl) (by decide) (by first | decide | omega) (by first | exact s1 | exact s2 | exact s3 | exact s4 | rfl) ?_
      refine wq_aload_n q63_40 rfl ?_
      refine wq_getR q63_41 (by first | exact s1 | exact s2 | exact s3 | exact s4 | rfl) rfl (by first | exact s1 | exact s2 | exact s3 | exact s4 | rfl) ?_
      refine wq_bipush q63_44 ?_
      refine wq_iconst q63_46 ?_
      refine sI q63_47 (by first | exact s1 | exact s2 | exact s3 | exact s4 | rfl) (rfl) (by decide) (by first | decide | omega) (by first | exact s1 | exact s2 | exact s3 | exact s4 | rfl) ?_
      refine wq_aload_n q63_48 rfl ?_
      refine wq_getR q63_49 (by first | exact s1 | exact s2 | exact s3 | exact s4 | rfl) rfl (by first | exact s1 | exact s2 | exact s3 | exact s4 | rfl) ?_
      refine wq_bipush q63_52 ?_
      refine wq_dup2 q63_54 rfl rfl ?_
      refine aI q63_55 (by first | exact s1 | exact s2 | exact s3 | exact s4 | rfl) (rfl) (by decide) (by first | decide | omega) ?_
      refine wq_iconst q63_56 ?_
      refine wq_iadd q63_57 ?_
      refine sI q63_58 (by first | exact s1 | exact s2 | exact s3 | exact s4 | rfl) (rfl) (by decide) (by first | decide | omega) (by first | exact s1 | exact s2 | exact s3 | exact s4 | rfl) ?_
      refine rV q63_59 ?_
      simp only [stI_C, hI_C, stC_C]
      have : k = 7 := by omega
      subst this
      exact hQ
    · rw [show (7 : Int32) = nI 7 from rfl, nI_leI (by omega) (by omega)] at c5
      omega
  | succ m ih =>
    intro k hk hQ
    refine wq_iload_n q63_2 rfl ?_
    refine wq_bipush q63_3 ?_
    refine wq_icmp_ge q63_5 (fun c5 => ?_) (fun c5 => ?_)
    · rw [show (7 : Int32) = nI 7 from rfl, nI_leI (by omega) (by omega)] at c5
      omega
    · refine wq_aload_n q63_8 rfl ?_
      refine wq_getR q63_9 (by first | exact s1 | exact s2 | exact s3 | exact s4 | rfl) rfl (by first | exact s1 | exact s2 | exact s3 | exact s4 | rfl) ?_
      refine wq_bipush q63_12 ?_
      refine wq_iload_n q63_14 rfl ?_
      refine wq_iadd q63_15 ?_
      refine wq_iconst q63_16 ?_
      refine sI q63_17 (by first | exact s1 | exact s2 | exact s3 | exact s4 | rfl) (nI_add 21 _) (by omega) (by first | decide | omega) (by first | exact s1 | exact s2 | exact s3 | exact s4 | rfl) ?_
      refine wq_iinc (ls' := [_, _]) q63_18 rfl rfl ?_
      refine wq_goto q63_21 ?_
      rw [nI_1, stI_C, hI_C, stC_C, edA_up]
      exact ih (k + 1) (by omega) hQ
theorem c_endDay (hs : Scn h a r) (hQ : Q none (stC h r (edR (hI h r)))) : Ct G (0, 0) d 63 [.ref a] h Q := by
  refine Ct_of (ls := [_, _]) m_63.1.2.2.1 (Nat.le_of_ble_eq_true rfl) rfl ?_
  refine wq_iconst q63_0 ?_
  refine wq_istore_n (ls' := [_, _]) q63_1 rfl ?_
  have := c_endDay_loop (G := G) (d := d) hs 7 0 (by omega) hQ
  rw [stC_self h r (f := edA (hI h r) 0) (by funext j; simp only [edA]; rw [if_neg (by omega)])] at this
  exact this
/-- what is known behind the telling -/
def wtA (row : Nat → Int32) (k : Nat) : Nat → Int32 := fun j => if 21 ≤ j ∧ j < 21 + k then row j ||| (row 28 &&& row (j - 7)) else row j
def wtR (row : Nat → Int32) (te : Nat) (hd : Int32) (n : Nat) : Nat → Int32 := va_up (va_up (wtA (va_up row (21 + te) (row (21 + te) ||| row 28)) n) 29 hd) 30 1
theorem wtA_up (row : Nat → Int32) {k : Nat} (hk : k < 7) : va_up (wtA row k) (21 + k) (wtA row k (21 + k) ||| (wtA row k 28 &&& wtA row k (14 + k))) = wtA row (k + 1) := by
  have e1 : wtA row k (21 + k) = row (21 + k) := by simp only [wtA]; rw [if_neg (by omega)]
  have e2 : wtA row k 28 = row 28 := by simp only [wtA]; rw [if_neg (by omega)]
  have e3 : wtA row k (14 + k) = row (14 + k) := by simp only [wtA]; rw [if_neg (by omega)]
  rw [e1, e2, e3]
  funext j
  by_cases h1 : j = 21 + k
  · subst h1
    simp only [va_up, if_pos, wtA]
    rw [if_pos (by omega), show 21 + k - 7 = 14 + k by omega]
  · simp only [va_up, if_neg h1, wtA]
    by_cases h2 : 21 ≤ j ∧ j < 21 + k
    · rw [if_pos h2, if_pos (by omega)]
    · rw [if_neg h2, if_neg (by omega)]
theorem c_wasTold_loop {row : Nat → Int32} {x1 hd : Int32} (hs : Scn h a r) (hn : n ≤ 7) : ∀ (m k : Nat), k + m = n → Q none (stC h r (va_up (va_up (wtA row n) 29 hd) 30 1)) →
    wq G (0, 0) d 62 22 [some (.ref a), some (.int x1), some (.int hd), some (.int (nI n)), some (.int (nI k))] [] (0, 0) (stC h r (wtA row k)) Q := by
  obtain ⟨s1, s2, s3, s4⟩ := hs
  intro m
  induction m with
  | zero =>
    intro k hk hQ
    refine wq_iload q62_22 rfl ?_
    refine wq_iload_n q62_24 rfl ?_
    refine wq_icmp_ge q62_25 (fun c25 => ?_) (fun c25 => ?_)
    · refine wq_aload_n q62_65 rfl ?_
      refine wq_getR q62_66 (by first | exact s1 | exact s2 | exact s3 | exact s4 | rfl) rfl (by first | exact s1 | exact s2 | exact s3 | exact s4 | rfl) ?_
      refine wq_bipush q62_69 ?_
      refine wq_iload_n q62_71 rfl ?_
      refine sI q62_72 (by first | exact s1 | exact s2 | exact s3 | exact s4 | rfl) (rfl) (by decide) (by first | decide | omega) (by first | exact s1 | exact s2 | exact s3 | exact s4 | rfl) ?_
      refine wq_aload_n q62_73 rfl ?_
      refine wq_getR q62_74 (by first | exact s1 | exact s2 | exact s3 | exact s4 | rfl) rfl (by first | exact s1 | exact s2 | exact s3 | exact s4 | rfl) ?_
      refine wq_bipush q62_77 ?_
      refine wq_iconst q62_79 ?_
      refine sI q62_80 (by first | exact s1 | exact s2 | exact s3 | exact s4 | rfl) (rfl) (by decide) (by first | decide | omega) (by first | exact s1 | exact s2 | exact s3 | exact s4 | rfl) ?_
      refine rV q62_81 ?_
      simp only [stI_C, hI_C, stC_C]
      have : k = n := by omega
      subst this
      exact hQ
    · rw [nI_leI (by omega) (by omega)] at c25
      omega
  | succ m ih =>
    intro k hk hQ
    refine wq_iload q62_22 rfl ?_
    refine wq_iload_n q62_24 rfl ?_
    refine wq_icmp_ge q62_25 (fun c25 => ?_) (fun c25 => ?_)
    · rw [nI_leI (by omega) (by omega)] at c25
      omega
    · refine wq_aload_n q62_28 rfl ?_
      refine wq_getR q62_29 (by first | exact s1 | exact s2 | exact s3 | exact s4 | rfl) rfl (by first | exact s1 | exact s2 | exact s3 | exact s4 | rfl) ?_
      refine wq_bipush q62_32 ?_
      refine wq_iload q62_34 rfl ?_
      refine wq_iadd q62_36 ?_
      refine wq_dup2 q62_37 rfl rfl ?_
      refine aI q62_38 (by first | exact s1 | exact s2 | exact s3 | exact s4 | rfl) (nI_add 21 _) (by omega) (by first | decide | omega) ?_
      refine wq_aload_n q62_39 rfl ?_
      refine wq_getR q62_40 (by first | exact s1 | exact s2 | exact s3 | exact s4 | rfl) rfl (by first | exact s1 | exact s2 | exact s3 | exact s4 | rfl) ?_
      refine wq_bipush q62_43 ?_
      refine aI q62_45 (by first | exact s1 | exact s2 | exact s3 | exact s4 | rfl) (rfl) (by decide) (by first | decide | omega) ?_
      refine wq_aload_n q62_46 rfl ?_
      refine wq_getR q62_47 (by first | exact s1 | exact s2 | exact s3 | exact s4 | rfl) rfl (by first | exact s1 | exact s2 | exact s3 | exact s4 | rfl) ?_
      refine wq_bipush q62_50 ?_
      refine wq_iload q62_52 rfl ?_
      refine wq_iadd q62_54 ?_
      refine aI q62_55 (by first | exact s1 | exact s2 | exact s3 | exact s4 | rfl) (nI_add 14 _) (by omega) (by first | decide | omega) ?_
      refine wq_iand q62_56 ?_
      refine wq_ior q62_57 ?_
      refine sI q62_58 (by first | exact s1 | exact s2 | exact s3 | exact s4 | rfl) (nI_add 21 _) (by omega) (by first | decide | omega) (by first | exact s1 | exact s2 | exact s3 | exact s4 | rfl) ?_
      refine wq_iinc (ls' := [_, _, _, _, _]) q62_59 rfl rfl ?_
      refine wq_goto q62_62 ?_
      rw [nI_1, stI_C, hI_C, stC_C, wtA_up row (by omega)]
      exact ih (k + 1) (by omega) hQ
theorem c_wasTold {te : Nat} {hd : Int32} (hs : Scn h a r) (hn : n ≤ 7) (ht : te < 7) (hQ : Q none (stC h r (wtR (hI h r) te hd n))) : Ct G (0, 0) d 62 [.ref a, .int (nI te), .int hd, .int (nI n)] h Q := by
  have hs' := hs
  obtain ⟨s1, s2, s3, s4⟩ := hs
  refine Ct_of (ls := [_, _, _, _, _]) m_62.1.2.2.1 (Nat.le_of_ble_eq_true rfl) rfl ?_
  refine wq_aload_n q62_0 rfl ?_
  refine wq_getR q62_1 (by first | exact s1 | exact s2 | exact s3 | exact s4 | rfl) rfl (by first | exact s1 | exact s2 | exact s3 | exact s4 | rfl) ?_
  refine wq_bipush q62_4 ?_
  refine wq_iload_n q62_6 rfl ?_
  refine wq_iadd q62_7 ?_
  refine wq_dup2 q62_8 rfl rfl ?_
  refine aI q62_9 (by first | exact s1 | exact s2 | exact s3 | exact s4 | rfl) (nI_add 21 _) (by omega) (by first | decide | omega) ?_
  refine wq_aload_n q62_10 rfl ?_
  refine wq_getR q62_11 (by first | exact s1 | exact s2 | exact s3 | exact s4 | rfl) rfl (by first | exact s1 | exact s2 | exact s3 | exact s4 | rfl) ?_
  refine wq_bipush q62_14 ?_
  refine aI q62_16 (by first | exact s1 | exact s2 | exact s3 | exact s4 | rfl) (rfl) (by decide) (by first | decide | omega) ?_
  refine wq_ior q62_17 ?_
  refine sI q62_18 (by first | exact s1 | exact s2 | exact s3 | exact s4 | rfl) (nI_add 21 _) (by omega) (by first | decide | omega) (by first | exact s1 | exact s2 | exact s3 | exact s4 | rfl) ?_
  refine wq_iconst q62_19 ?_
  refine wq_istore (ls' := [_, _, _, _, _]) q62_20 rfl ?_
  have := c_wasTold_loop (G := G) (d := d) (x1 := nI te) (row := va_up (hI h r) (21 + te) (hI h r (21 + te) ||| hI h r 28)) hs' hn n 0 (by omega) hQ
  rw [show wtA (va_up (hI h r) (21 + te) (hI h r (21 + te) ||| hI h r 28)) 0 = va_up (hI h r) (21 + te) (hI h r (21 + te) ||| hI h r 28) by funext j; simp only [wtA]; rw [if_neg (by omega)]] at this
  exact this
theorem c_scopy {a2 r2 : Nat} (hs : Scn h a r) (hs2 : Scn h a2 r2) (hQ : Q none (stC h r (va_cpy (hI h r2) (hI h r) 0 0 33))) : Ct G (0, 0) (d + 1) 55 [.ref a, .ref a2] h Q := by
  obtain ⟨s1, s2, s3, s4⟩ := hs
  obtain ⟨t1, t2, t3, t4⟩ := hs2
  refine Ct_of (ls := [_, _]) m_55.1.2.2.1 (Nat.le_of_ble_eq_true rfl) rfl ?_
  refine wq_aload_n q55_0 rfl ?_
  refine wq_getR q55_1 (by first | exact t1 | exact t2 | exact s1 | exact s2 | rfl) rfl (by first | exact t1 | exact t2 | exact s1 | exact s2 | rfl) ?_
  refine wq_iconst q55_4 ?_
  refine wq_aload_n q55_5 rfl ?_
  refine wq_getR q55_6 (by first | exact t1 | exact t2 | exact s1 | exact s2 | rfl) rfl (by first | exact t1 | exact t2 | exact s1 | exact s2 | rfl) ?_
  refine wq_iconst q55_9 ?_
  refine wq_bipush q55_10 ?_
  refine wq_copy q55_12 t3 s3 (by decide) (by decide) (by decide) (by decide) (by decide) s4 ⟨Nat.le.refl, Nat.le.refl, Nat.le_of_ble_eq_true rfl⟩ ?_
  refine rV q55_15 ?_
  exact hQ
end SCENE2
section ACTS
variable {G : ph_G} {d a r n f dr t : Nat} {hi : Nat → Nat → Int32} {hl : Nat → Nat → Int64} {Q : Option Value → ph_H → Prop}
theorem c_aforget (hQ : Q none (HP (up2 hi 48 2 0) hl f dr t)) : Ct G (0, 0) d 1 [.ref 48] (HP hi hl f dr t) Q := by
  refine Ct_of (ls := [_]) m_1.1.2.2.1 (Nat.le_of_ble_eq_true rfl) rfl ?_
  refine wq_aload_n q1_0 rfl ?_
  refine wq_iconst q1_1 ?_
  refine wq_putI q1_2 rfl rfl rfl rfl ?_
  refine rV q1_5 ?_
  exact hQ
/-- an act is kept: the row goes to the next place -/
def keA (hi : Nat → Nat → Int32) (r nx kp : Nat) : Nat → Nat → Int32 := up2 (up2 (upC hi 49 (va_cpy (hi r) (hi 49) 0 (nx * 33) 33)) 48 1 (nI ((nx + 1) % 40))) 48 2 (nI (min (kp + 1) 40))
theorem c_keep {nx kp : Nat} (hs : Scn (HP hi hl f dr t) a r) (h1 : hi 48 1 = nI nx) (h1' : nx < 40) (h2 : hi 48 2 = nI kp) (h2' : kp ≤ 40) (hQ : Q none (HP (keA hi r nx kp) hl f dr t)) : Ct G (0, 0) (d + 1) 2 [.ref 48, .ref a] (HP hi hl f dr t) Q := by
  obtain ⟨s1, s2, s3, s4⟩ := hs
  have e1 : hI (HP hi hl f dr t) 48 1 = nI nx := h1
  have e2 : nI nx * 33 = nI (nx * 33) := pk_mul nx 33
  have e3 : (nI (nx * 33)).toNatClampNeg = nx * 33 := nI_clamp (by omega)
  refine Ct_of (ls := [_, _]) m_2.1.2.2.1 (Nat.le_of_ble_eq_true rfl) rfl ?_
  refine wq_aload_n q2_0 rfl ?_
  refine wq_getR q2_1 (by first | exact s1 | exact s2 | rfl) rfl (by first | exact s1 | exact s2 | rfl) ?_
  refine wq_iconst q2_4 ?_
  refine wq_aload_n q2_5 rfl ?_
  refine wq_getR q2_6 (by first | exact s1 | exact s2 | rfl) rfl (by first | exact s1 | exact s2 | rfl) ?_
  refine wq_aload_n q2_9 rfl ?_
  refine wq_getI q2_10 (by first | exact s1 | exact s2 | rfl) rfl ?_
  refine wq_bipush q2_13 ?_
  refine wq_imul q2_15 ?_
  refine wq_bipush q2_16 ?_
  rw [e1, e2]
  refine wq_copy q2_18 s3 rfl (by decide) (nI_pos (by omega)) (by decide) (by decide) (by rw [e3]; show nx * 33 + 33 ≤ 1320; omega) rfl ⟨Nat.le.refl, Nat.le.refl, Nat.le_of_ble_eq_true rfl⟩ ?_
  rw [e3]
  refine wq_aload_n q2_21 rfl ?_
  refine wq_aload_n q2_22 rfl ?_
  refine wq_getI q2_23 rfl rfl ?_
  refine wq_iconst q2_26 ?_
  refine wq_iadd q2_27 ?_
  have e4 : hI (stC (HP hi hl f dr t) 49 (va_cpy (hI (HP hi hl f dr t) r) (hI (HP hi hl f dr t) 49) (0 : Int32).toNatClampNeg (nx * 33) (33 : Int32).toNatClampNeg)) 48 1 = nI nx := h1
  rw [e4, nI_1]
  refine wq_bipush q2_28 ?_
  refine wq_irem q2_30 (by decide) ?_
  refine wq_putI q2_31 rfl rfl rfl rfl ?_
  refine wq_aload_n q2_34 rfl ?_
  refine wq_aload_n q2_35 rfl ?_
  refine wq_getI q2_36 rfl rfl ?_
  refine wq_iconst q2_39 ?_
  refine wq_iadd q2_40 ?_
  refine wq_bipush q2_41 ?_
  have e5 : nI (nx + 1) - nI (nx + 1) / 40 * 40 = nI ((nx + 1) % 40) := pk_rem (d := 40) (by omega) (by omega) (by omega)
  rw [e5]
  have e6 : hI (HP hi hl f dr t) 48 2 = nI kp := h2
  refine wq_min q2_43 ⟨Nat.le.refl, Nat.le.refl, Nat.le_of_ble_eq_true rfl⟩ ?_
  refine wq_putI q2_46 rfl rfl rfl rfl ?_
  refine rV q2_49 ?_
  have e7 : (if (40 : Int32) < nI kp + 1 then (40 : Int32) else nI kp + 1) = nI (min (kp + 1) 40) := by
    rw [nI_1, show (40 : Int32) = nI 40 from rfl]
    by_cases hc : 40 < kp + 1
    · rw [if_pos ((nI_ltI (by omega) (by omega)).mpr hc), Nat.min_eq_right (by omega)]
    · rw [if_neg (fun z => hc ((nI_ltI (by omega) (by omega)).mp z)), Nat.min_eq_left (by omega)]
  have e8 : hI (stI (stC (HP hi hl f dr t) 49 (va_cpy (hI (HP hi hl f dr t) r) (hI (HP hi hl f dr t) 49) (0 : Int32).toNatClampNeg (nx * 33) (33 : Int32).toNatClampNeg)) 48 1 (nI ((nx + 1) % 40))) 48 2 = nI kp := h2
  rw [e8, e7]
  exact hQ
end ACTS
