/-! THE REFERENCE: how it reads a text -/
theorem by_ok : ∀ x, x < 256 → (nI x).toInt8.toInt32 &&& 255 = nI x ∧ ((nI x).toInt8.toInt32 = 32 ↔ nI x = 32) ∧ ((48 ≤ (nI x).toInt8.toInt32 ∧ (nI x).toInt8.toInt32 ≤ 57) ↔ (48 ≤ nI x ∧ nI x ≤ 57)) ∧ ((48 ≤ nI x ∧ nI x ≤ 57) → (nI x).toInt8.toInt32 = nI x) := by decide +kernel
/-- the text that the reference reads: in cell t from bg on, L bytes, which are b's -/
def RT (hi : Nat → Nat → Int32) (t bg L N : Nat) (b : Nat → Int32) : Prop := ((t = 59 ∧ N = 240) ∨ (t = 60 ∧ N = 960)) ∧ L ≤ 240 ∧ bg + L ≤ N ∧ TpB b L ∧ hi 58 8 = nI bg ∧ hi 58 9 = nI L ∧ ∀ j, j < L → hi t (bg + j) = (b j).toInt8.toInt32
/-- a reader at p, its fault, how deep it is -/
def rpS (hi : Nat → Nat → Int32) (p : Nat) (fl dp : Int32) : Nat → Nat → Int32 := up2 (up2 (up2 hi 58 10 (nI p)) 58 11 fl) 58 12 dp
theorem rpS_p (hi : Nat → Nat → Int32) (p p' : Nat) (fl dp : Int32) : up2 (rpS hi p fl dp) 58 10 (nI p') = rpS hi p' fl dp := by
  unfold rpS
  rw [up2_comm _ _ _ (Or.inr (by decide)), up2_comm _ (b := 58) (j := 10) _ _ (Or.inr (by decide)), up2_uu]
theorem rpS_f (hi : Nat → Nat → Int32) (p : Nat) (fl dp x : Int32) : up2 (rpS hi p fl dp) 58 11 x = rpS hi p x dp := by
  unfold rpS
  rw [up2_comm _ _ _ (Or.inr (by decide)), up2_uu]
theorem rpS_d (hi : Nat → Nat → Int32) (p : Nat) (fl dp x : Int32) : up2 (rpS hi p fl dp) 58 12 x = rpS hi p fl x := by
  unfold rpS
  rw [up2_uu]
theorem rpS_o (hi : Nat → Nat → Int32) (p : Nat) (fl dp : Int32) {a : Nat} (h : a ≠ 58) : rpS hi p fl dp a = hi a := by
  unfold rpS
  rw [up2_o _ _ _ h, up2_o _ _ _ h, up2_o _ _ _ h]
/-- other fields of the reference commute with the reader's -/
theorem rpS_k (hi : Nat → Nat → Int32) (p : Nat) (fl dp x : Int32) {k : Nat} (h : k ≠ 10 ∧ k ≠ 11 ∧ k ≠ 12) : up2 (rpS hi p fl dp) 58 k x = rpS (up2 hi 58 k x) p fl dp := by
  unfold rpS
  rw [up2_comm _ _ _ (Or.inr (Ne.symm h.2.2)), up2_comm _ (b := 58) (j := k) _ _ (Or.inr (Ne.symm h.2.1)), up2_comm _ (b := 58) (j := k) _ _ (Or.inr (Ne.symm h.1))]
theorem RT.sh {hi : Nat → Nat → Int32} {t bg L N : Nat} {b : Nat → Int32} (h : RT hi t bg L N b) (hi' : Nat → Nat → Int32) (hl : Nat → Nat → Int64) (f dr t' : Nat) : (hS (HP hi' hl f dr t'))[t]? = some (101, N) ∧ t ≠ 58 ∧ N < 1000 := by
  rcases h.1 with ⟨rfl, rfl⟩ | ⟨rfl, rfl⟩ <;> exact ⟨rfl, by decide, by decide⟩
section REFBASE
variable {G : ph_G} {d f dr t bg L N p : Nat} {hi : Nat → Nat → Int32} {hl : Nat → Nat → Int64} {fl dp : Int32} {Q : Option Value → ph_H → Prop} {b : Nat → Int32}
theorem c_rlook_end (hT : RT hi t bg L N b) (hp : p ≤ L) (hQ : Q (some (.int (tat b L p))) (HP (rpS hi p fl dp) hl f dr t)) : wq G (0, 0) d 177 43 [some (.ref 58)] [] (0, 0) (HP (rpS hi p fl dp) hl f dr t) Q := by
  obtain ⟨hsh, hne, hN⟩ := hT.sh (rpS hi p fl dp) hl f dr t
  obtain ⟨ht, hLm, hbg, hb, h8, h9, hby⟩ := hT
  have e1 : hI (HP (rpS hi p fl dp) hl f dr t) 58 9 = nI L := h9
  have e2 : hI (HP (rpS hi p fl dp) hl f dr t) 58 10 = nI p := rfl
  have e3 : hI (HP (rpS hi p fl dp) hl f dr t) 58 8 = nI bg := h8
  refine wq_aload_n q177_43 rfl ?_
  refine wq_getI q177_44 rfl rfl ?_
  refine wq_aload_n q177_47 rfl ?_
  refine wq_getI q177_48 rfl rfl ?_
  refine wq_icmp_ge q177_51 (fun c51 => ?_) (fun c51 => ?_)
  · rw [e1, e2, nI_leI (by omega) (by omega)] at c51
    rw [tat, if_neg (by omega)] at hQ
    refine wq_iconst q177_75 ?_
    refine rI q177_76 rfl ?_
    exact hQ
  · rw [e1, e2, nI_leI (by omega) (by omega)] at c51
    obtain ⟨x, x1, x2, x3⟩ := hb p (by omega)
    have e4 : hI (HP (rpS hi p fl dp) hl f dr t) t (bg + p) = (nI x).toInt8.toInt32 := by
      show rpS hi p fl dp t (bg + p) = _
      rw [rpS_o _ _ _ _ hne, hby p (by omega), x3]
    refine wq_aload_n q177_54 rfl ?_
    refine wq_getR q177_55 (by first | exact hsh | rfl) rfl (by first | exact hsh | rfl) ?_
    refine wq_aload_n q177_58 rfl ?_
    refine wq_getI q177_59 (by first | exact hsh | rfl) rfl ?_
    refine wq_aload_n q177_62 rfl ?_
    refine wq_getI q177_63 (by first | exact hsh | rfl) rfl ?_
    refine wq_iadd q177_66 ?_
    refine aB q177_67 (by first | exact hsh | rfl) ((by rw [e3, e2, nI_add])) (by omega) (by first | decide | omega) ?_
    refine wq_sipush q177_68 ?_
    refine wq_iand q177_71 ?_
    refine wq_goto q177_72 ?_
    refine rI q177_76 rfl ?_
    rw [e4, (by_ok x x2).1]
    rw [tat, if_pos (by omega), x3] at hQ
    exact hQ
theorem c_rlook_loop (hT : RT hi t bg L N b) : ∀ (n p : Nat), p ≤ L → L - p ≤ n → Q (some (.int (tat b L (tpSk b L n p)))) (HP (rpS hi (tpSk b L n p) fl dp) hl f dr t) → wq G (0, 0) d 177 0 [some (.ref 58)] [] (0, 0) (HP (rpS hi p fl dp) hl f dr t) Q := by
  have hT' := hT
  obtain ⟨ht, hLm, hbg, hb, h8, h9, hby⟩ := hT
  intro n
  induction n with
  | zero =>
    intro p hp hn hQ
    have e1 : hI (HP (rpS hi p fl dp) hl f dr t) 58 9 = nI L := h9
    have e2 : hI (HP (rpS hi p fl dp) hl f dr t) 58 10 = nI p := rfl
    refine wq_aload_n q177_0 rfl ?_
    refine wq_getI q177_1 rfl rfl ?_
    refine wq_aload_n q177_4 rfl ?_
    refine wq_getI q177_5 rfl rfl ?_
    refine wq_icmp_ge q177_8 (fun c8 => ?_) (fun c8 => ?_)
    · exact c_rlook_end hT' hp hQ
    · rw [e1, e2, nI_leI (by omega) (by omega)] at c8
      omega
  | succ n ih =>
    intro p hp hn hQ
    obtain ⟨hsh, hne, hN⟩ := hT'.sh (rpS hi p fl dp) hl f dr t
    have e1 : hI (HP (rpS hi p fl dp) hl f dr t) 58 9 = nI L := h9
    have e2 : hI (HP (rpS hi p fl dp) hl f dr t) 58 10 = nI p := rfl
    have e3 : hI (HP (rpS hi p fl dp) hl f dr t) 58 8 = nI bg := h8
    refine wq_aload_n q177_0 rfl ?_
    refine wq_getI q177_1 rfl rfl ?_
    refine wq_aload_n q177_4 rfl ?_
    refine wq_getI q177_5 rfl rfl ?_
    refine wq_icmp_ge q177_8 (fun c8 => ?_) (fun c8 => ?_)
    · rw [e1, e2, nI_leI (by omega) (by omega)] at c8
      have e : tpSk b L (n + 1) p = p := by rw [tpSk, if_neg (by omega)]
      rw [e] at hQ
      exact c_rlook_end hT' hp hQ
    · rw [e1, e2, nI_leI (by omega) (by omega)] at c8
      obtain ⟨x, x1, x2, x3⟩ := hb p (by omega)
      have e4 : hI (HP (rpS hi p fl dp) hl f dr t) t (bg + p) = (nI x).toInt8.toInt32 := by
        show rpS hi p fl dp t (bg + p) = _
        rw [rpS_o _ _ _ _ hne, hby p (by omega), x3]
      refine wq_aload_n q177_11 rfl ?_
      refine wq_getR q177_12 (by first | exact hsh | rfl) rfl (by first | exact hsh | rfl) ?_
      refine wq_aload_n q177_15 rfl ?_
      refine wq_getI q177_16 (by first | exact hsh | rfl) rfl ?_
      refine wq_aload_n q177_19 rfl ?_
      refine wq_getI q177_20 (by first | exact hsh | rfl) rfl ?_
      refine wq_iadd q177_23 ?_
      refine aB q177_24 (by first | exact hsh | rfl) ((by rw [e3, e2, nI_add])) (by omega) (by first | decide | omega) ?_
      refine wq_bipush q177_25 ?_
      refine wq_icmp_ne q177_27 (fun c27 => ?_) (fun c27 => ?_)
      · rw [e4] at c27
        have e : tpSk b L (n + 1) p = p := by rw [tpSk, if_neg (fun z => c27 ((by_ok x x2).2.1.mpr (x3 ▸ z.2)))]
        rw [e] at hQ
        exact c_rlook_end hT' hp hQ
      · rw [e4] at c27
        have e : tpSk b L (n + 1) p = tpSk b L n (p + 1) := by rw [tpSk, if_pos ⟨by omega, x3.trans ((by_ok x x2).2.1.mp c27)⟩]
        rw [e] at hQ
        refine wq_aload_n q177_30 rfl ?_
        refine wq_dup q177_31 rfl ?_
        refine wq_getI q177_32 rfl rfl ?_
        refine wq_iconst q177_35 ?_
        refine wq_iadd q177_36 ?_
        refine wq_putI q177_37 rfl rfl rfl rfl ?_
        refine wq_goto q177_40 ?_
        rw [e2, nI_1, hpS, rpS_p]
        exact ih (p + 1) (by omega) (by omega) hQ
theorem c_rlook (hT : RT hi t bg L N b) (hp : p ≤ L) (hQ : Q (some (.int (tat b L (tpSkip b L p)))) (HP (rpS hi (tpSkip b L p) fl dp) hl f dr t)) : Ct G (0, 0) d 177 [.ref 58] (HP (rpS hi p fl dp) hl f dr t) Q := by
  refine Ct_of (ls := [_]) m_177.1.2.2.1 (Nat.le_of_ble_eq_true rfl) rfl ?_
  exact c_rlook_loop hT (L - p) p hp (Nat.le_refl _) hQ
theorem c_rfails (hQ : Q (some (.int 0)) (HP (rpS hi p (tpF fl p) dp) hl f dr t)) : Ct G (0, 0) d 178 [.ref 58] (HP (rpS hi p fl dp) hl f dr t) Q := by
  refine Ct_of (ls := [_]) m_178.1.2.2.1 (Nat.le_of_ble_eq_true rfl) rfl ?_
  have e3 : hI (HP (rpS hi p fl dp) hl f dr t) 58 11 = fl := rfl
  have e2 : hI (HP (rpS hi p fl dp) hl f dr t) 58 10 = nI p := rfl
  refine wq_aload_n q178_0 rfl ?_
  refine wq_getI q178_1 rfl rfl ?_
  refine wq_iconst q178_4 ?_
  refine wq_icmp_ne q178_5 (fun c5 => ?_) (fun c5 => ?_)
  · rw [e3] at c5
    rw [tpF, if_neg c5] at hQ
    refine wq_iconst q178_16 ?_
    refine rI q178_17 rfl ?_
    exact hQ
  · rw [e3] at c5
    rw [tpF, if_pos c5] at hQ
    refine wq_aload_n q178_8 rfl ?_
    refine wq_aload_n q178_9 rfl ?_
    refine wq_getI q178_10 rfl rfl ?_
    refine wq_putI q178_13 rfl rfl rfl rfl ?_
    refine wq_iconst q178_16 ?_
    refine rI q178_17 rfl ?_
    rw [e2, hpS, rpS_f]
    exact hQ
theorem c_rgoesIn (h0 : dp = 6 → Q (some (.int 0)) (HP (rpS hi p (tpF fl p) dp) hl f dr t)) (h1 : ¬ dp = 6 → Q (some (.int 1)) (HP (rpS hi (p + 1) fl (dp + 1)) hl f dr t)) : Ct G (0, 0) (d + 1) 179 [.ref 58] (HP (rpS hi p fl dp) hl f dr t) Q := by
  refine Ct_of (ls := [_]) m_179.1.2.2.1 (Nat.le_of_ble_eq_true rfl) rfl ?_
  have e3 : hI (HP (rpS hi p fl dp) hl f dr t) 58 12 = dp := rfl
  refine wq_aload_n q179_0 rfl ?_
  refine wq_getI q179_1 rfl rfl ?_
  refine wq_bipush q179_4 ?_
  refine wq_icmp_ne q179_6 (fun c6 => ?_) (fun c6 => ?_)
  · rw [e3] at c6
    refine wq_aload_n q179_14 rfl ?_
    refine wq_dup q179_15 rfl ?_
    refine wq_getI q179_16 rfl rfl ?_
    refine wq_iconst q179_19 ?_
    refine wq_iadd q179_20 ?_
    refine wq_putI q179_21 rfl rfl rfl rfl ?_
    rw [e3, hpS, rpS_d]
    have e2 : hI (HP (rpS hi p fl (dp + 1)) hl f dr t) 58 10 = nI p := rfl
    refine wq_aload_n q179_24 rfl ?_
    refine wq_dup q179_25 rfl ?_
    refine wq_getI q179_26 rfl rfl ?_
    refine wq_iconst q179_29 ?_
    refine wq_iadd q179_30 ?_
    refine wq_putI q179_31 rfl rfl rfl rfl ?_
    refine wq_iconst q179_34 ?_
    refine rI q179_35 rfl ?_
    rw [e2, nI_1, hpS, rpS_p]
    exact h1 c6
  · rw [e3] at c6
    refine wq_aload_n q179_9 rfl ?_
    refine cV (As := []) q179_10 m_178 rfl rfl rfl ⟨by decide, rfl⟩ rfl (c_rfails ?_)
    refine rI q179_13 rfl ?_
    exact h0 c6
theorem c_rtakes {x : Int32} (hT : RT hi t bg L N b) (hp : p ≤ L) (h1 : fl = -1 → tat b L (tpSkip b L p) = x → Q (some (.int 1)) (HP (rpS hi (tpSkip b L p + 1) (-1) dp) hl f dr t)) (h0 : fl = -1 → ¬ tat b L (tpSkip b L p) = x → Q (some (.int 0)) (HP (rpS hi (tpSkip b L p) (nI (tpSkip b L p)) dp) hl f dr t)) (hf : ¬ fl = -1 → Q (some (.int 0)) (HP (rpS hi p fl dp) hl f dr t)) : Ct G (0, 0) (d + 1) 180 [.ref 58, .int x] (HP (rpS hi p fl dp) hl f dr t) Q := by
  refine Ct_of (ls := [_, _]) m_180.1.2.2.1 (Nat.le_of_ble_eq_true rfl) rfl ?_
  have e3 : hI (HP (rpS hi p fl dp) hl f dr t) 58 11 = fl := rfl
  refine wq_aload_n q180_0 rfl ?_
  refine wq_getI q180_1 rfl rfl ?_
  refine wq_iconst q180_4 ?_
  refine wq_icmp_ne q180_5 (fun c5 => ?_) (fun c5 => ?_)
  · rw [e3] at c5
    refine wq_aload_n q180_16 rfl ?_
    refine cV (As := []) q180_17 m_178 rfl rfl rfl ⟨by decide, rfl⟩ rfl (c_rfails ?_)
    refine rI q180_20 rfl ?_
    rw [tpF, if_neg c5]
    exact hf c5
  · rw [e3] at c5
    subst c5
    refine wq_aload_n q180_8 rfl ?_
    refine cV (As := []) q180_9 m_177 rfl rfl rfl ⟨by decide, rfl⟩ rfl (c_rlook hT hp ?_)
    refine wq_iload_n q180_12 rfl ?_
    refine wq_icmp_eq q180_13 (fun c13 => ?_) (fun c13 => ?_)
    · have e2 : hI (HP (rpS hi (tpSkip b L p) (-1) dp) hl f dr t) 58 10 = nI (tpSkip b L p) := rfl
      refine wq_aload_n q180_21 rfl ?_
      refine wq_dup q180_22 rfl ?_
      refine wq_getI q180_23 rfl rfl ?_
      refine wq_iconst q180_26 ?_
      refine wq_iadd q180_27 ?_
      refine wq_putI q180_28 rfl rfl rfl rfl ?_
      refine wq_iconst q180_31 ?_
      refine rI q180_32 rfl ?_
      rw [e2, nI_1, hpS, rpS_p]
      exact h1 rfl c13
    · refine wq_aload_n q180_16 rfl ?_
      refine cV (As := []) q180_17 m_178 rfl rfl rfl ⟨by decide, rfl⟩ rfl (c_rfails ?_)
      refine rI q180_20 rfl ?_
      rw [tpF, if_pos rfl]
      exact h0 rfl c13
theorem c_risDigit (hT : RT hi t bg L N b) (hp : p ≤ L) (hQ : Q (some (.int (if isDg (tat b L p) = true then 1 else 0))) (HP (rpS hi p fl dp) hl f dr t)) : Ct G (0, 0) d 181 [.ref 58] (HP (rpS hi p fl dp) hl f dr t) Q := by
  obtain ⟨hsh, hne, hN⟩ := hT.sh (rpS hi p fl dp) hl f dr t
  obtain ⟨ht, hLm, hbg, hb, h8, h9, hby⟩ := hT
  have e1 : hI (HP (rpS hi p fl dp) hl f dr t) 58 9 = nI L := h9
  have e2 : hI (HP (rpS hi p fl dp) hl f dr t) 58 10 = nI p := rfl
  have e3 : hI (HP (rpS hi p fl dp) hl f dr t) 58 8 = nI bg := h8
  refine Ct_of (ls := [_]) m_181.1.2.2.1 (Nat.le_of_ble_eq_true rfl) rfl ?_
  refine wq_aload_n q181_0 rfl ?_
  refine wq_getI q181_1 rfl rfl ?_
  refine wq_aload_n q181_4 rfl ?_
  refine wq_getI q181_5 rfl rfl ?_
  refine wq_icmp_ge q181_8 (fun c8 => ?_) (fun c8 => ?_)
  · rw [e1, e2, nI_leI (by omega) (by omega)] at c8
    rw [show tat b L p = -1 by unfold tat; rw [if_neg (by omega)], if_neg (by decide)] at hQ
    refine wq_iconst q181_53 ?_
    refine rI q181_54 rfl ?_
    exact hQ
  · rw [e1, e2, nI_leI (by omega) (by omega)] at c8
    obtain ⟨x, x1, x2, x3⟩ := hb p (by omega)
    have e4 : hI (HP (rpS hi p fl dp) hl f dr t) t (bg + p) = (nI x).toInt8.toInt32 := by
      show rpS hi p fl dp t (bg + p) = _
      rw [rpS_o _ _ _ _ hne, hby p (by omega), x3]
    have hk := (by_ok x x2).2.2.1
    rw [show tat b L p = nI x by unfold tat; rw [if_pos (by omega), x3]] at hQ
    refine wq_aload_n q181_11 rfl ?_
    refine wq_getR q181_12 (by first | exact hsh | rfl) rfl (by first | exact hsh | rfl) ?_
    refine wq_aload_n q181_15 rfl ?_
    refine wq_getI q181_16 (by first | exact hsh | rfl) rfl ?_
    refine wq_aload_n q181_19 rfl ?_
    refine wq_getI q181_20 (by first | exact hsh | rfl) rfl ?_
    refine wq_iadd q181_23 ?_
    refine aB q181_24 (by first | exact hsh | rfl) ((by rw [e3, e2, nI_add])) (by omega) (by first | decide | omega) ?_
    refine wq_bipush q181_25 ?_
    refine wq_icmp_lt q181_27 (fun c27 => ?_) (fun c27 => ?_)
    · rw [e4] at c27
      rw [if_neg (by simp only [isDg, decide_eq_true_eq]; rw [← hk]; exact fun z => absurd z.1 (Int32.not_le.mpr c27))] at hQ
      refine wq_iconst q181_53 ?_
      refine rI q181_54 rfl ?_
      exact hQ
    · rw [e4] at c27
      refine wq_aload_n q181_30 rfl ?_
      refine wq_getR q181_31 (by first | exact hsh | rfl) rfl (by first | exact hsh | rfl) ?_
      refine wq_aload_n q181_34 rfl ?_
      refine wq_getI q181_35 (by first | exact hsh | rfl) rfl ?_
      refine wq_aload_n q181_38 rfl ?_
      refine wq_getI q181_39 (by first | exact hsh | rfl) rfl ?_
      refine wq_iadd q181_42 ?_
      refine aB q181_43 (by first | exact hsh | rfl) ((by rw [e3, e2, nI_add])) (by omega) (by first | decide | omega) ?_
      refine wq_bipush q181_44 ?_
      refine wq_icmp_gt q181_46 (fun c46 => ?_) (fun c46 => ?_)
      · rw [e4] at c46
        rw [if_neg (by simp only [isDg, decide_eq_true_eq]; rw [← hk]; exact fun z => absurd z.2 (Int32.not_le.mpr c46))] at hQ
        refine wq_iconst q181_53 ?_
        refine rI q181_54 rfl ?_
        exact hQ
      · rw [e4] at c46
        rw [if_pos (by simp only [isDg, decide_eq_true_eq]; rw [← hk]; exact ⟨Int32.not_lt.mp c27, Int32.not_lt.mp c46⟩)] at hQ
        refine wq_iconst q181_49 ?_
        refine wq_goto q181_50 ?_
        refine rI q181_54 rfl ?_
        exact hQ
theorem c_rhere (hT : RT hi t bg L N b) (hp : p ≤ L) (hQ : Q (some (.int (tat b L p))) (HP (rpS hi p fl dp) hl f dr t)) : Ct G (0, 0) d 194 [.ref 58] (HP (rpS hi p fl dp) hl f dr t) Q := by
  obtain ⟨hsh, hne, hN⟩ := hT.sh (rpS hi p fl dp) hl f dr t
  obtain ⟨ht, hLm, hbg, hb, h8, h9, hby⟩ := hT
  have e1 : hI (HP (rpS hi p fl dp) hl f dr t) 58 9 = nI L := h9
  have e2 : hI (HP (rpS hi p fl dp) hl f dr t) 58 10 = nI p := rfl
  have e3 : hI (HP (rpS hi p fl dp) hl f dr t) 58 8 = nI bg := h8
  refine Ct_of (ls := [_]) m_194.1.2.2.1 (Nat.le_of_ble_eq_true rfl) rfl ?_
  refine wq_aload_n q194_0 rfl ?_
  refine wq_getI q194_1 rfl rfl ?_
  refine wq_aload_n q194_4 rfl ?_
  refine wq_getI q194_5 rfl rfl ?_
  refine wq_icmp_ge q194_8 (fun c8 => ?_) (fun c8 => ?_)
  · rw [e1, e2, nI_leI (by omega) (by omega)] at c8
    rw [tat, if_neg (by omega)] at hQ
    refine wq_iconst q194_32 ?_
    refine rI q194_33 rfl ?_
    exact hQ
  · rw [e1, e2, nI_leI (by omega) (by omega)] at c8
    obtain ⟨x, x1, x2, x3⟩ := hb p (by omega)
    have e4 : hI (HP (rpS hi p fl dp) hl f dr t) t (bg + p) = (nI x).toInt8.toInt32 := by
      show rpS hi p fl dp t (bg + p) = _
      rw [rpS_o _ _ _ _ hne, hby p (by omega), x3]
    refine wq_aload_n q194_11 rfl ?_
    refine wq_getR q194_12 (by first | exact hsh | rfl) rfl (by first | exact hsh | rfl) ?_
    refine wq_aload_n q194_15 rfl ?_
    refine wq_getI q194_16 (by first | exact hsh | rfl) rfl ?_
    refine wq_aload_n q194_19 rfl ?_
    refine wq_getI q194_20 (by first | exact hsh | rfl) rfl ?_
    refine wq_iadd q194_23 ?_
    refine aB q194_24 (by first | exact hsh | rfl) ((by rw [e3, e2, nI_add])) (by omega) (by first | decide | omega) ?_
    refine wq_sipush q194_25 ?_
    refine wq_iand q194_28 ?_
    refine wq_goto q194_29 ?_
    refine rI q194_33 rfl ?_
    rw [e4, (by_ok x x2).1]
    rw [tat, if_pos (by omega), x3] at hQ
    exact hQ
theorem c_within {v : Int64} {h : ph_H} (hQ : Q (some (.int (cl6 v))) h) : Ct G (0, 0) (d + 1) 182 [.long v] h Q := by
  refine Ct_of (ls := [_, _]) m_182.1.2.2.1 (Nat.le_of_ble_eq_true rfl) rfl ?_
  refine wq_ldc2_w q182_0 ?_
  refine wq_ldc2_w q182_3 ?_
  refine wq_lload_n q182_6 rfl ?_
  refine wq_minL q182_7 ⟨Nat.le.refl, Nat.le.refl, Nat.le_of_ble_eq_true rfl⟩ ?_
  refine wq_maxL q182_10 ⟨Nat.le.refl, Nat.le.refl, Nat.le_of_ble_eq_true rfl⟩ ?_
  refine wq_l2i q182_13 ?_
  refine rI q182_14 rfl ?_
  exact hQ
theorem c_risSign {x : Int32} {h : ph_H} (hQ : Q (some (.int (if isCmp x = true then 1 else 0))) h) : Ct G (0, 0) d 186 [.int x] h Q := by
  refine Ct_of (ls := [_]) m_186.1.2.2.1 (Nat.le_of_ble_eq_true rfl) rfl ?_
  refine wq_iload_n q186_0 rfl ?_
  refine wq_bipush q186_1 ?_
  refine wq_icmp_eq q186_3 (fun c3 => ?_) (fun c3 => ?_)
  · subst c3
    refine wq_iconst q186_18 ?_
    refine wq_goto q186_19 ?_
    refine rI q186_23 rfl ?_
    exact hQ
  · refine wq_iload_n q186_6 rfl ?_
    refine wq_bipush q186_7 ?_
    refine wq_icmp_eq q186_9 (fun c9 => ?_) (fun c9 => ?_)
    · subst c9
      refine wq_iconst q186_18 ?_
      refine wq_goto q186_19 ?_
      refine rI q186_23 rfl ?_
      exact hQ
    · refine wq_iload_n q186_12 rfl ?_
      refine wq_bipush q186_13 ?_
      refine wq_icmp_ne q186_15 (fun c15 => ?_) (fun c15 => ?_)
      · rw [if_neg (by simp [isCmp, c3, c9, c15])] at hQ
        refine wq_iconst q186_22 ?_
        refine rI q186_23 rfl ?_
        exact hQ
      · subst c15
        refine wq_iconst q186_18 ?_
        refine wq_goto q186_19 ?_
        refine rI q186_23 rfl ?_
        exact hQ
/-- v in least .. most -/
def iiB (v a b : Int64) : Bool := decide (a ≤ v) && decide (v ≤ b)
theorem c_isIn {v x y : Int64} {h : ph_H} (hQ : Q (some (.int (if iiB v x y = true then 1 else 0))) h) : Ct G (0, 0) d 170 [.long v, .long x, .long y] h Q := by
  refine Ct_of (ls := [_, _, _, _, _, _]) m_170.1.2.2.1 (Nat.le_of_ble_eq_true rfl) rfl ?_
  refine wq_lload_n q170_0 rfl ?_
  refine wq_lload_n q170_1 rfl ?_
  refine wq_lcmp q170_2 ?_
  refine wq_if_lt q170_3 (fun c3 => ?_) (fun c3 => ?_)
  · rw [lg_cmp_lt] at c3
    rw [if_neg (by simp [iiB, Int64.not_le.mpr c3])] at hQ
    refine wq_iconst q170_17 ?_
    refine rI q170_18 rfl ?_
    exact hQ
  · rw [lg_cmp_lt] at c3
    refine wq_lload_n q170_6 rfl ?_
    refine wq_lload q170_7 rfl ?_
    refine wq_lcmp q170_9 ?_
    refine wq_if_gt q170_10 (fun c10 => ?_) (fun c10 => ?_)
    · rw [lg_cmp_gt] at c10
      rw [if_neg (by simp [iiB, Int64.not_le.mpr c10])] at hQ
      refine wq_iconst q170_17 ?_
      refine rI q170_18 rfl ?_
      exact hQ
    · rw [lg_cmp_gt] at c10
      rw [if_pos (by simp [iiB, Int64.not_lt.mp c3, Int64.not_lt.mp c10])] at hQ
      refine wq_iconst q170_13 ?_
      refine wq_goto q170_14 ?_
      refine rI q170_18 rfl ?_
      exact hQ
/-- bit k of a set -/
def hsB (x k : Int32) : Bool := decide ((x >>> (k &&& 31)) &&& 1 = 1)
theorem c_rhas {x k : Int32} {h : ph_H} (hQ : Q (some (.int (if hsB x k = true then 1 else 0))) h) : Ct G (0, 0) d 171 [.int x, .int k] h Q := by
  refine Ct_of (ls := [_, _]) m_171.1.2.2.1 (Nat.le_of_ble_eq_true rfl) rfl ?_
  refine wq_iload_n q171_0 rfl ?_
  refine wq_iload_n q171_1 rfl ?_
  refine wq_ishr q171_2 ?_
  refine wq_iconst q171_3 ?_
  refine wq_iand q171_4 ?_
  refine wq_iconst q171_5 ?_
  refine wq_icmp_ne q171_6 (fun c6 => ?_) (fun c6 => ?_)
  · rw [if_neg (by simp [hsB, c6])] at hQ
    refine wq_iconst q171_13 ?_
    refine rI q171_14 rfl ?_
    exact hQ
  · rw [if_pos (by simp [hsB, c6])] at hQ
    refine wq_iconst q171_9 ?_
    refine wq_goto q171_10 ?_
    refine rI q171_14 rfl ?_
    exact hQ
end REFBASE
