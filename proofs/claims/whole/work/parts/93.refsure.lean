/-! THE REFERENCE: what is sure, what to ask -/
theorem nx_or (a b : Nat) : nI a ||| nI b = nI (a ||| b) := by
  apply Int32.toBitVec_inj.1
  show BitVec.ofNat 32 a ||| BitVec.ofNat 32 b = BitVec.ofNat 32 (a ||| b)
  apply BitVec.eq_of_getLsbD_eq
  intro i hi
  simp [hi]
theorem mask_sub : ∀ ev, ev < 7 → ∀ k, k < 2 ^ ev → nI (2 ^ ev) - 1 - nI k = (nI (2 ^ ev) - 1) &&& (nI k ^^^ (-1)) := by decide +kernel
/-- how many truths there are -/
def ctT (lc : Nat → Int32) (v : Int32) : Nat → Nat → Nat
  | 0, _ => 0
  | m + 1, T => (if lc T ≤ v then 1 else 0) + ctT lc v m (T + 1)
theorem trC_cnt {lc : Nat → Int32} {v : Int32} : ∀ (m T c : Nat), c + m < 2 ^ 31 → trC lc v (-1) m T (nI c) = nI (c + ctT lc v m T) := by
  intro m
  induction m with
  | zero => intro T c h; rw [trC, if_pos rfl]; rfl
  | succ m ih =>
    intro T c h
    rw [trC, ctT]
    by_cases hl : lc T ≤ v
    · rw [if_pos hl, if_neg (nI_nm1 (by omega)), if_pos hl, nI_1, ih (T + 1) (c + 1) (by omega)]
      congr 1
      omega
    · rw [if_neg hl, if_neg hl, ih (T + 1) c (by omega)]
      congr 1
      omega
theorem ctT_le {lc : Nat → Int32} {v : Int32} : ∀ (m T : Nat), ctT lc v m T ≤ m := by
  intro m
  induction m with
  | zero => intro T; exact Nat.le_refl _
  | succ m ih =>
    intro T
    rw [ctT]
    have := ih (T + 1)
    split <;> omega
theorem srR_flag {lc : Nat → Int32} {v : Int32} : ∀ (m T : Nat) (x : Int32 × Int32 × Int32), (srR lc v m T x).2.2 = (if ctT lc v m T = 0 then x.2.2 else 1) := by
  intro m
  induction m with
  | zero => intro T x; rfl
  | succ m ih =>
    intro T x
    rw [srR, ih (T + 1), ctT]
    by_cases hl : lc T ≤ v
    · rw [if_pos hl, if_pos hl, if_neg (show ¬ 1 + ctT lc v m (T + 1) = 0 by omega)]
      split <;> rfl
    · rw [if_neg hl, if_neg hl, Nat.zero_add]
theorem ynR_flag {lc : Nat → Int32} {v e : Int32} : ∀ (m T : Nat) (x : Int32 × Int32), (ynR lc v e m T x).2 = (if ctT lc v m T = 0 then x.2 else 1) := by
  intro m
  induction m with
  | zero => intro T x; rfl
  | succ m ih =>
    intro T x
    rw [ynR, ih (T + 1), ctT]
    by_cases hl : lc T ≤ v
    · rw [if_pos hl, if_pos hl, if_neg (show ¬ 1 + ctT lc v m (T + 1) = 0 by omega)]
      split <;> rfl
    · rw [if_neg hl, if_neg hl, Nat.zero_add]
theorem ynR_bound {lc : Nat → Int32} {v e : Int32} : ∀ (m T : Nat) (x : Int32 × Int32), (∃ k : Int, -(T : Int) ≤ k ∧ k ≤ (T : Int) ∧ x.1 = Int32.ofInt k) → ∃ k : Int, -((T + m : Nat) : Int) ≤ k ∧ k ≤ ((T + m : Nat) : Int) ∧ (ynR lc v e m T x).1 = Int32.ofInt k := by
  intro m
  induction m with
  | zero => intro T x h; exact h
  | succ m ih =>
    intro T x h
    obtain ⟨k, h1, h2, h3⟩ := h
    rw [ynR]
    rw [show T + (m + 1) = (T + 1) + m by omega]
    refine ih (T + 1) _ ?_
    by_cases hl : lc T ≤ v
    · rw [if_pos hl]
      show ∃ k' : Int, _ ∧ _ ∧ x.1 + _ = _
      by_cases hb : nI T >>> (e &&& 31) &&& 1 = 1
      · rw [if_pos hb, h3]
        refine ⟨k + 1, by omega, by omega, ?_⟩
        rw [Int32.ofInt_add]
        rfl
      · rw [if_neg hb, h3]
        refine ⟨k + -1, by omega, by omega, ?_⟩
        rw [Int32.ofInt_add]
        rfl
    · rw [if_neg hl]
      exact ⟨k, by omega, by omega, h3⟩
theorem ab_bound {x : Int32} {N : Nat} (hN : N ≤ 64) (h : ∃ k : Int, -(N : Int) ≤ k ∧ k ≤ (N : Int) ∧ x = Int32.ofInt k) : ∃ j, j ≤ N ∧ ab32 x = nI j := by
  obtain ⟨k, h1, h2, rfl⟩ := h
  have ht : (Int32.ofInt k).toInt = k := Int32.toInt_ofInt_of_le (by omega) (by omega)
  unfold ab32
  by_cases h0 : 0 ≤ Int32.ofInt k
  · rw [if_pos h0]
    rw [Int32.le_iff_toInt_le, ht, show (0 : Int32).toInt = 0 from rfl] at h0
    refine ⟨k.toNat, by omega, Int32.toInt_inj.mp ?_⟩
    rw [ht, nI_toInt (by omega)]
    omega
  · rw [if_neg h0]
    rw [Int32.le_iff_toInt_le, ht, show (0 : Int32).toInt = 0 from rfl] at h0
    refine ⟨(-k).toNat, by omega, ?_⟩
    rw [Int32.zero_sub, ← Int32.ofInt_neg]
    refine Int32.toInt_inj.mp ?_
    rw [Int32.toInt_ofInt_of_le (by omega) (by omega), nI_toInt (by omega)]
    omega
section REFSURE
variable {G : ph_G} {d f dr t n r ev wi sz lg a sa : Nat} {hi hi' hc : Nat → Nat → Int32} {hl : Nat → Nat → Int64} {Q : Option Value → ph_H → Prop} {row : Nat → Int32} {lw : Option Nat}
theorem c_rsure_loop {v w : Int32} (hs : SaR hc hi n ev sa) (hn : n ≤ 7) (hev : ev ≤ 6) (h27 : hi 58 27 = nI ev) : ∀ (m T : Nat) (x : Int32 × Int32 × Int32) (k : Nat), T + m = 2 ^ ev → k < 2 ^ ev → x.2.1 = nI k →
    (∀ k', k' < 2 ^ ev → (srR (lcV (hc 55) (hc 56)) v m T x).2.1 = nI k' → Q (some (.int (if w = 0 then (srR (lcV (hc 55) (hc 56)) v m T x).1 else (nI (2 ^ ev) - 1) &&& (nI k' ^^^ (-1))))) (HP hi hl f dr t)) →
    wq G (0, 0) (d + 2) 269 52 [some (.ref 58), some (.int v), some (.int w), some (.int x.1), some (.int ((nI (2 ^ ev) - 1) &&& (nI k ^^^ (-1)))), some (.int (nI T))] [] (0, 0) (HP hi hl f dr t) Q := by
  have h64 := pw6 hev
  intro m
  induction m with
  | zero =>
    intro T x k hm hk hx hQ
    have hQ := hQ k hk hx
    rw [srR] at hQ
    refine wq_iload q269_52 rfl ?_
    refine wq_aload_n q269_54 rfl ?_
    refine cV (As := []) q269_55 m_264 rfl rfl rfl ⟨by decide, rfl⟩ rfl (c_truthMany hev h27 ?_)
    refine wq_icmp_ge q269_58 (fun c58 => ?_) (fun c58 => ?_)
    · refine wq_iload_n q269_97 rfl ?_
      refine wq_if_ne q269_98 (fun c98 => ?_) (fun c98 => ?_)
      · rw [if_neg c98] at hQ
        refine wq_iload q269_105 rfl ?_
        refine rI q269_107 rfl ?_
        exact hQ
      · rw [if_pos c98] at hQ
        refine wq_iload_n q269_101 rfl ?_
        refine wq_goto q269_102 ?_
        refine rI q269_107 rfl ?_
        exact hQ
    · rw [nI_leI (by omega) (by omega)] at c58
      omega
  | succ m ih =>
    intro T x k hm hk hx hQ
    rw [srR] at hQ
    refine wq_iload q269_52 rfl ?_
    refine wq_aload_n q269_54 rfl ?_
    refine cV (As := []) q269_55 m_264 rfl rfl rfl ⟨by decide, rfl⟩ rfl (c_truthMany hev h27 ?_)
    refine wq_icmp_ge q269_58 (fun c58 => ?_) (fun c58 => ?_)
    · rw [nI_leI (by omega) (by omega)] at c58
      omega
    · refine wq_aload_n q269_61 rfl ?_
      refine wq_iload q269_62 rfl ?_
      refine cV (As := [_]) q269_64 m_263 rfl rfl rfl ⟨by decide, rfl⟩ rfl (c_rliarsBy hs hn hev ?_)
      refine cS' (As := [_]) q269_67 m_295 rfl rfl rfl (c_bitCount ?_)
      refine wq_iload_n q269_70 rfl ?_
      refine wq_icmp_le q269_71 (fun c71 => ?_) (fun c71 => ?_)
      · rw [if_pos (show lcV (hc 55) (hc 56) T ≤ v from c71)] at hQ
        have hkT : k ||| T < 2 ^ ev := Nat.or_lt_two_pow hk (by omega)
        have eN : ((nI (2 ^ ev) - 1) &&& (nI k ^^^ (-1))) &&& (nI T ^^^ (-1)) = (nI (2 ^ ev) - 1) &&& (nI (k ||| T) ^^^ (-1)) := by
          rw [← nx_or]
          refine b_ext (fun i hi => ?_)
          rw [b_and, b_and, b_and, b_xor, b_xor, b_xor, b_or, b_m1 i hi]
          cases bt (nI (2 ^ ev) - 1) i <;> cases bt (nI k) i <;> cases bt (nI T) i <;> rfl
        refine wq_iload_n q269_77 rfl ?_
        refine wq_iload q269_78 rfl ?_
        refine wq_iand q269_80 ?_
        refine wq_istore_n (ls' := [_, _, _, _, _, _]) q269_81 rfl ?_
        refine wq_iload q269_82 rfl ?_
        refine wq_iload q269_84 rfl ?_
        refine wq_iconst q269_86 ?_
        refine wq_ixor q269_87 ?_
        refine wq_iand q269_88 ?_
        refine wq_istore (ls' := [_, _, _, _, _, _]) q269_89 rfl ?_
        refine wq_iinc (ls' := [_, _, _, _, _, _]) q269_91 rfl rfl ?_
        refine wq_goto q269_94 ?_
        rw [nI_1, eN]
        exact ih (T + 1) (x.1 &&& nI T, x.2.1 ||| nI T, 1) (k ||| T) (by omega) hkT (by show x.2.1 ||| nI T = _; rw [hx, nx_or]) hQ
      · rw [if_neg (show ¬ lcV (hc 55) (hc 56) T ≤ v from c71)] at hQ
        refine wq_goto q269_74 ?_
        refine wq_iinc (ls' := [_, _, _, _, _, _]) q269_91 rfl rfl ?_
        refine wq_goto q269_94 ?_
        rw [nI_1]
        exact ih (T + 1) x k (by omega) hk hx hQ
theorem c_rsure {v w : Int32} (hs : SaR hc hi n ev sa) (hF : RF hi f lw sz n ev wi) (h0 : ¬ (cdB (nI n) v = true ∧ 0 ≤ w ∧ w ≤ 1) → Q (some (.int (-1))) (HP (up2 hi 58 0 0) hl f dr t))
    (h1 : cdB (nI n) v = true → 0 ≤ w → w ≤ 1 → Q (some (.int (if (srR (lcV (hc 55) (hc 56)) v (2 ^ ev) 0 (nI (2 ^ ev) - 1, 0, 0)).2.2 = 0 then -1 else if w = 0 then (srR (lcV (hc 55) (hc 56)) v (2 ^ ev) 0 (nI (2 ^ ev) - 1, 0, 0)).1 else nI (2 ^ ev) - 1 - (srR (lcV (hc 55) (hc 56)) v (2 ^ ev) 0 (nI (2 ^ ev) - 1, 0, 0)).2.1))) (HP (up2 hi 58 0 0) hl f dr t)) : Ct G (0, 0) (d + 3) 269 [.ref 58, .int v, .int w] (HP hi hl f dr t) Q := by
  have hn := hF.2.1.1
  have hev := hF.2.1.2.2.1
  have h64 := pw6 hev
  have e26 : up2 hi 58 0 0 58 26 = nI n := hF.2.2.1.1
  have hr0 : RS hi (up2 hi 58 0 0) := RS.upK (by decide) _
  have hs0 : SaR hc (up2 hi 58 0 0) n ev sa := hs.mvr rfl rfl rfl rfl
  have hfl := srR_flag (lc := lcV (hc 55) (hc 56)) (v := v) (2 ^ ev) 0 (nI (2 ^ ev) - 1, 0, 0)
  refine Ct_of (ls := [_, _, _, _, _, _]) m_269.1.2.2.1 (Nat.le_of_ble_eq_true rfl) rfl ?_
  refine wq_aload_n q269_0 rfl ?_
  refine wq_iconst q269_1 ?_
  refine wq_putI q269_2 rfl rfl rfl rfl ?_
  rw [hpS]
  refine wq_aload_n q269_5 rfl ?_
  refine wq_iload_n q269_6 rfl ?_
  refine cV (As := [_]) q269_7 m_267 rfl rfl rfl ⟨by decide, rfl⟩ rfl (c_mayAsk ?_)
  refine wq_if_eq q269_10 (fun c10 => ?_) (fun c10 => ?_)
  · have c := i01 c10
    rw [e26] at c
    refine wq_iconst q269_32 ?_
    refine rI q269_33 rfl ?_
    exact h0 (fun z => by rw [z.1] at c; cases c)
  · have c := i10 c10
    rw [e26] at c
    refine wq_iload_n q269_13 rfl ?_
    refine wq_i2l q269_14 ?_
    refine wq_lconst q269_15 ?_
    refine wq_lconst q269_16 ?_
    refine cS' (As := [_, _, _]) q269_17 m_170 rfl rfl rfl (c_isIn ?_)
    refine wq_if_eq q269_20 (fun c20 => ?_) (fun c20 => ?_)
    · have cw := i01 c20
      refine wq_iconst q269_32 ?_
      refine rI q269_33 rfl ?_
      exact h0 (fun z => by rw [iiB_01.mpr z.2] at cw; cases cw)
    · have cw := iiB_01.mp (i10 c20)
      have h1 := h1 c cw.1 cw.2
      rw [hfl] at h1
      refine wq_aload_n q269_23 rfl ?_
      refine wq_iload_n q269_24 rfl ?_
      refine wq_iconst q269_25 ?_
      refine cV (As := [_, _]) q269_26 m_268 rfl rfl rfl ⟨by decide, rfl⟩ rfl (c_rtruths (d := d) hs0 (hr0.mv hF) ?_)
      rw [if_pos ⟨c, by decide⟩, show (0 : Int32) = nI 0 from rfl, trC_cnt _ _ _ (by omega), up2_uu, Nat.zero_add, show nI 0 = (0 : Int32) from rfl]
      have hcl := ctT_le (lc := lcV (hc 55) (hc 56)) (v := v) (2 ^ ev) 0
      refine wq_if_ne q269_29 (fun c29 => ?_) (fun c29 => ?_)
      · rw [show (0 : Int32) = nI 0 from rfl, nI_eq (by omega) (by omega)] at c29
        rw [if_neg (show ¬ (if ctT (lcV (hc 55) (hc 56)) v (2 ^ ev) 0 = 0 then (0 : Int32) else 1) = 0 by rw [if_neg c29]; decide)] at h1
        refine wq_aload_n q269_34 rfl ?_
        refine cV (As := []) q269_35 m_264 rfl rfl rfl ⟨by decide, rfl⟩ rfl (c_truthMany hev hF.2.2.1.2.1 ?_)
        refine wq_iconst q269_38 ?_
        refine wq_isub q269_39 ?_
        refine wq_istore_n (ls' := [_, _, _, _, _, _]) q269_40 rfl ?_
        refine wq_aload_n q269_41 rfl ?_
        refine cV (As := []) q269_42 m_264 rfl rfl rfl ⟨by decide, rfl⟩ rfl (c_truthMany hev hF.2.2.1.2.1 ?_)
        refine wq_iconst q269_45 ?_
        refine wq_isub q269_46 ?_
        refine wq_istore (ls' := [_, _, _, _, _, _]) q269_47 rfl ?_
        refine wq_iconst q269_49 ?_
        refine wq_istore (ls' := [_, _, _, _, _, _]) q269_50 rfl ?_
        have key := c_rsure_loop (G := G) (d := d + 1) (f := f) (dr := dr) (t := t) (hl := hl) (Q := Q) (v := v) (w := w) hs0 hn hev hF.2.2.1.2.1 (2 ^ ev) 0 (nI (2 ^ ev) - 1, 0, 0) 0 (by omega) (by omega) rfl (fun k' hk' e => ?_)
        · rw [show (nI (2 ^ ev) - 1) &&& (nI 0 ^^^ (-1)) = nI (2 ^ ev) - 1 from b_ext (fun i hi => by rw [b_and, b_xor, b_m1 i hi, show nI 0 = (0 : Int32) from rfl, b_0]; simp)] at key
          exact key
        · rw [e, mask_sub ev (by omega) k' hk'] at h1
          exact h1
      · rw [show (0 : Int32) = nI 0 from rfl, nI_eq (by omega) (by omega)] at c29
        rw [if_pos (show (if ctT (lcV (hc 55) (hc 56)) v (2 ^ ev) 0 = 0 then (0 : Int32) else 1) = 0 by rw [if_pos c29])] at h1
        refine wq_iconst q269_32 ?_
        refine rI q269_33 rfl ?_
        exact h1
/-- how far yes and no are apart -/
theorem c_rask_in {v : Int32} {e : Nat} {y : Int32 × Int32} (hs : SaR hc hi n ev sa) (hn : n ≤ 7) (hev : ev ≤ 6) (h27 : hi 58 27 = nI ev) : ∀ (m T : Nat) (x : Int32 × Int32), T + m = 2 ^ ev → (∀ x6, wq G (0, 0) (d + 3) 270 94 [some (.ref 58), some (.int v), some (.int y.1), some (.int y.2), some (.int (nI e)), some (.int (ynR (lcV (hc 55) (hc 56)) v (nI e) m T x).1), x6] [] (0, 0) (HP hi hl f dr t) Q) →
    wq G (0, 0) (d + 3) 270 46 [some (.ref 58), some (.int v), some (.int y.1), some (.int y.2), some (.int (nI e)), some (.int x.1), some (.int (nI T))] [] (0, 0) (HP hi hl f dr t) Q := by
  have h64 := pw6 hev
  intro m
  induction m with
  | zero =>
    intro T x hm K
    refine wq_iload q270_46 rfl ?_
    refine wq_aload_n q270_48 rfl ?_
    refine cV (As := []) q270_49 m_264 rfl rfl rfl ⟨by decide, rfl⟩ rfl (c_truthMany hev h27 ?_)
    refine wq_icmp_ge q270_52 (fun c52 => ?_) (fun c52 => ?_)
    · exact K _
    · rw [nI_leI (by omega) (by omega)] at c52
      omega
  | succ m ih =>
    intro T x hm K
    rw [ynR] at K
    refine wq_iload q270_46 rfl ?_
    refine wq_aload_n q270_48 rfl ?_
    refine cV (As := []) q270_49 m_264 rfl rfl rfl ⟨by decide, rfl⟩ rfl (c_truthMany hev h27 ?_)
    refine wq_icmp_ge q270_52 (fun c52 => ?_) (fun c52 => ?_)
    · rw [nI_leI (by omega) (by omega)] at c52
      omega
    · refine wq_aload_n q270_55 rfl ?_
      refine wq_iload q270_56 rfl ?_
      refine cV (As := [_]) q270_58 m_263 rfl rfl rfl ⟨by decide, rfl⟩ rfl (c_rliarsBy hs hn hev ?_)
      refine cS' (As := [_]) q270_61 m_295 rfl rfl rfl (c_bitCount ?_)
      refine wq_iload_n q270_64 rfl ?_
      refine wq_icmp_gt q270_65 (fun c65 => ?_) (fun c65 => ?_)
      · rw [if_neg (show ¬ lcV (hc 55) (hc 56) T ≤ v from Int32.not_le.mpr c65)] at K
        refine wq_iinc (ls' := [_, _, _, _, _, _, _]) q270_88 rfl rfl ?_
        refine wq_goto q270_91 ?_
        rw [nI_1]
        exact ih (T + 1) x (by omega) K
      · rw [if_pos (show lcV (hc 55) (hc 56) T ≤ v from Int32.not_lt.mp c65)] at K
        refine wq_iload q270_68 rfl ?_
        refine wq_iload q270_70 rfl ?_
        refine wq_iload q270_72 rfl ?_
        refine cS' (As := [_, _]) q270_74 m_171 rfl rfl rfl (c_rhas ?_)
        refine wq_if_eq q270_77 (fun c77 => ?_) (fun c77 => ?_)
        · have c := i01 c77
          rw [if_neg (show ¬ nI T >>> (nI e &&& 31) &&& 1 = 1 from of_decide_eq_false c)] at K
          refine wq_iconst q270_84 ?_
          refine wq_iadd q270_85 ?_
          refine wq_istore (ls' := [_, _, _, _, _, _, _]) q270_86 rfl ?_
          refine wq_iinc (ls' := [_, _, _, _, _, _, _]) q270_88 rfl rfl ?_
          refine wq_goto q270_91 ?_
          rw [nI_1]
          exact ih (T + 1) (x.1 + -1, 1) (by omega) K
        · have c := i10 c77
          rw [if_pos (show nI T >>> (nI e &&& 31) &&& 1 = 1 from of_decide_eq_true c)] at K
          refine wq_iconst q270_80 ?_
          refine wq_goto q270_81 ?_
          refine wq_iadd q270_85 ?_
          refine wq_istore (ls' := [_, _, _, _, _, _, _]) q270_86 rfl ?_
          refine wq_iinc (ls' := [_, _, _, _, _, _, _]) q270_88 rfl rfl ?_
          refine wq_goto q270_91 ?_
          rw [nI_1]
          exact ih (T + 1) (x.1 + 1, 1) (by omega) K
def AR (N : Nat) (x y : Int32 × Int32) : Prop := (y = x ∧ ¬ x.1 = -1) ∨ (x = (-1, nI N + 1) ∧ y = (-1, 0))
theorem c_rask_loop {v : Int32} (hs : SaR hc hi n ev sa) (hn : n ≤ 7) (hev : ev ≤ 6) (h27 : hi 58 27 = nI ev) (hcT : ¬ ctT (lcV (hc 55) (hc 56)) v (2 ^ ev) 0 = 0) : ∀ (m e : Nat) (x y : Int32 × Int32) (x5 x6 : Option Value), e + m = ev → AR (2 ^ ev) x y → Q (some (.int (asR (ynV (lcV (hc 55) (hc 56)) v (2 ^ ev)) m e x).1)) (HP hi hl f dr t) →
    wq G (0, 0) (d + 3) 270 31 [some (.ref 58), some (.int v), some (.int y.1), some (.int y.2), some (.int (nI e)), x5, x6] [] (0, 0) (HP hi hl f dr t) Q := by
  have h64 := pw6 hev
  have ec : hI (HP hi hl f dr t) 58 27 = nI ev := h27
  intro m
  induction m with
  | zero =>
    intro e x y x5 x6 hm hxy hQ
    obtain rfl : e = ev := by omega
    have e1 : y.1 = x.1 := by rcases hxy with ⟨rfl, -⟩ | ⟨rfl, rfl⟩ <;> rfl
    refine wq_iload q270_31 rfl ?_
    refine wq_aload_n q270_33 rfl ?_
    refine wq_getI q270_34 rfl rfl ?_
    refine wq_icmp_ge q270_37 (fun c37 => ?_) (fun c37 => ?_)
    · refine wq_iload_n q270_127 rfl ?_
      refine rI q270_128 rfl ?_
      rw [e1]
      exact hQ
    · rw [ec] at c37
      exact absurd (nI_le (Nat.le_refl _) (by omega)) c37
  | succ m ih =>
    intro e x y x5 x6 hm hxy hQ
    rw [asR] at hQ
    have hfl := ynR_flag (lc := lcV (hc 55) (hc 56)) (v := v) (e := nI e) (2 ^ ev) 0 (0, 0)
    rw [if_neg hcT] at hfl
    have eg : ynV (lcV (hc 55) (hc 56)) v (2 ^ ev) e = ab32 (ynR (lcV (hc 55) (hc 56)) v (nI e) (2 ^ ev) 0 (0, 0)).1 := by
      unfold ynV
      rw [if_neg (by rw [hfl]; decide)]
    have hbd := ynR_bound (lc := lcV (hc 55) (hc 56)) (v := v) (e := nI e) (2 ^ ev) 0 (0, 0) ⟨0, by omega, by omega, rfl⟩
    rw [Nat.zero_add] at hbd
    obtain ⟨j, hj, ej⟩ := ab_bound h64 hbd
    rw [eg, ej] at hQ
    refine wq_iload q270_31 rfl ?_
    refine wq_aload_n q270_33 rfl ?_
    refine wq_getI q270_34 rfl rfl ?_
    refine wq_icmp_ge q270_37 (fun c37 => ?_) (fun c37 => ?_)
    · rw [ec, nI_leI (by omega) (by omega)] at c37
      omega
    · refine wq_iconst q270_40 ?_
      refine wq_istore (ls' := [_, _, _, _, _, _, _]) q270_41 rfl ?_
      refine wq_iconst q270_43 ?_
      refine wq_istore (ls' := [_, _, _, _, _, _, _]) q270_44 rfl ?_
      refine c_rask_in hs hn hev h27 (2 ^ ev) 0 (0, 0) (by omega) (fun x6 => ?_)
      refine wq_iload q270_94 rfl ?_
      refine wq_abs q270_96 ⟨Nat.le.refl, Nat.le.refl, Nat.le_of_ble_eq_true rfl⟩ ?_
      rw [show (if 0 ≤ (ynR (lcV (hc 55) (hc 56)) v (nI e) (2 ^ ev) 0 (0, 0)).1 then (ynR (lcV (hc 55) (hc 56)) v (nI e) (2 ^ ev) 0 (0, 0)).1 else 0 - (ynR (lcV (hc 55) (hc 56)) v (nI e) (2 ^ ev) 0 (0, 0)).1) = nI j from ej]
      have take : (y.1 = -1 ∨ nI j < y.2) → ∀ x6, wq G (0, 0) (d + 3) 270 115 [some (.ref 58), some (.int v), some (.int y.1), some (.int y.2), some (.int (nI e)), some (.int (nI j)), x6] [] (0, 0) (HP hi hl f dr t) Q := by
        intro hy x6
        have hx : nI j < x.2 := by
          rcases hxy with ⟨rfl, hne⟩ | ⟨rfl, rfl⟩
          · exact hy.elim (fun z => absurd z hne) id
          · show nI j < nI (2 ^ ev) + 1
            rw [nI_1]
            exact nI_lt (by omega) (by omega)
        rw [if_pos ⟨nI_nm1 (by omega), hx⟩] at hQ
        refine wq_iload q270_115 rfl ?_
        refine wq_istore_n (ls' := [_, _, _, _, _, _, _]) q270_117 rfl ?_
        refine wq_iload q270_118 rfl ?_
        refine wq_istore_n (ls' := [_, _, _, _, _, _, _]) q270_120 rfl ?_
        refine wq_iinc (ls' := [_, _, _, _, _, _, _]) q270_121 rfl rfl ?_
        refine wq_goto q270_124 ?_
        rw [nI_1]
        exact ih (e + 1) (nI e, nI j) (nI e, nI j) _ _ (by omega) (Or.inl ⟨rfl, nI_nm1 (by omega)⟩) hQ
      refine wq_istore (ls' := [_, _, _, _, _, _, _]) q270_99 rfl ?_
      refine wq_iload_n q270_101 rfl ?_
      refine wq_iconst q270_102 ?_
      refine wq_icmp_eq q270_103 (fun c103 => ?_) (fun c103 => ?_)
      · exact take (Or.inl c103) _
      · refine wq_iload q270_106 rfl ?_
        refine wq_iload_n q270_108 rfl ?_
        refine wq_icmp_lt q270_109 (fun c109 => ?_) (fun c109 => ?_)
        · exact take (Or.inr c109) _
        · have hyx : y = x := by
            rcases hxy with ⟨h, -⟩ | ⟨-, rfl⟩
            · exact h
            · exact absurd rfl c103
          rw [if_neg (show ¬ (¬ nI j = -1 ∧ nI j < x.2) from fun z => c109 (by rw [hyx]; exact z.2))] at hQ
          refine wq_goto q270_112 ?_
          refine wq_iinc (ls' := [_, _, _, _, _, _, _]) q270_121 rfl rfl ?_
          refine wq_goto q270_124 ?_
          rw [nI_1]
          exact ih (e + 1) x y _ _ (by omega) hxy hQ
theorem asR_none {g : Nat → Int32} (h : ∀ e, g e = -1) : ∀ (m e : Nat) (x : Int32 × Int32), asR g m e x = x := by
  intro m
  induction m with
  | zero => intro e x; rfl
  | succ m ih =>
    intro e x
    rw [asR, if_neg (fun z => z.1 (h e))]
    exact ih (e + 1) x
theorem c_rask {v : Int32} (hs : SaR hc hi n ev sa) (hF : RF hi f lw sz n ev wi) (hQ : Q (some (.int (if cdB (nI n) v = true then (asR (ynV (lcV (hc 55) (hc 56)) v (2 ^ ev)) ev 0 (-1, nI (2 ^ ev) + 1)).1 else -1))) (HP (up2 hi 58 0 0) hl f dr t)) : Ct G (0, 0) (d + 3) 270 [.ref 58, .int v] (HP hi hl f dr t) Q := by
  have hn := hF.2.1.1
  have hev := hF.2.1.2.2.1
  have h64 := pw6 hev
  have e26 : up2 hi 58 0 0 58 26 = nI n := hF.2.2.1.1
  have hr0 : RS hi (up2 hi 58 0 0) := RS.upK (by decide) _
  have hs0 : SaR hc (up2 hi 58 0 0) n ev sa := hs.mvr rfl rfl rfl rfl
  refine Ct_of (ls := [_, _, _, _, _, _, _]) m_270.1.2.2.1 (Nat.le_of_ble_eq_true rfl) rfl ?_
  refine wq_aload_n q270_0 rfl ?_
  refine wq_iconst q270_1 ?_
  refine wq_putI q270_2 rfl rfl rfl rfl ?_
  rw [hpS]
  refine wq_aload_n q270_5 rfl ?_
  refine wq_iload_n q270_6 rfl ?_
  refine cV (As := [_]) q270_7 m_267 rfl rfl rfl ⟨by decide, rfl⟩ rfl (c_mayAsk ?_)
  refine wq_if_eq q270_10 (fun c10 => ?_) (fun c10 => ?_)
  · have c := i01 c10
    rw [e26] at c
    rw [if_neg (show ¬ cdB (nI n) v = true by rw [c]; decide)] at hQ
    refine wq_iconst q270_22 ?_
    refine rI q270_23 rfl ?_
    exact hQ
  · have c := i10 c10
    rw [e26] at c
    rw [if_pos c] at hQ
    refine wq_aload_n q270_13 rfl ?_
    refine wq_iload_n q270_14 rfl ?_
    refine wq_iconst q270_15 ?_
    refine cV (As := [_, _]) q270_16 m_268 rfl rfl rfl ⟨by decide, rfl⟩ rfl (c_rtruths (d := d) hs0 (hr0.mv hF) ?_)
    rw [if_pos ⟨c, by decide⟩, show (0 : Int32) = nI 0 from rfl, trC_cnt _ _ _ (by omega), up2_uu, Nat.zero_add, show nI 0 = (0 : Int32) from rfl]
    have hcl := ctT_le (lc := lcV (hc 55) (hc 56)) (v := v) (2 ^ ev) 0
    refine wq_if_ne q270_19 (fun c19 => ?_) (fun c19 => ?_)
    · rw [show (0 : Int32) = nI 0 from rfl, nI_eq (by omega) (by omega)] at c19
      refine wq_iconst q270_24 ?_
      refine wq_istore_n (ls' := [_, _, _, _, _, _, _]) q270_25 rfl ?_
      refine wq_iconst q270_26 ?_
      refine wq_istore_n (ls' := [_, _, _, _, _, _, _]) q270_27 rfl ?_
      refine wq_iconst q270_28 ?_
      refine wq_istore (ls' := [_, _, _, _, _, _, _]) q270_29 rfl ?_
      exact c_rask_loop hs0 hn hev hF.2.2.1.2.1 c19 ev 0 (-1, nI (2 ^ ev) + 1) (-1, 0) _ _ (by omega) (Or.inr ⟨rfl, rfl⟩) hQ
    · rw [show (0 : Int32) = nI 0 from rfl, nI_eq (by omega) (by omega)] at c19
      rw [asR_none (fun e => ?_)] at hQ
      · refine wq_iconst q270_22 ?_
        refine rI q270_23 rfl ?_
        exact hQ
      · unfold ynV
        rw [ynR_flag, if_pos c19, if_pos rfl]
end REFSURE
