/-! THE CLASS: codes, prisoners, forts that aren't -/
abbrev tlX : Type := Int32 × Int32
def tlL (rec : Int32 → Int32 → Int32 → tlX → tlX) (still room sum bf c : Int32) : Nat → Nat → tlX → tlX
  | 0, _, x => x
  | k + 1, l, x => tlL rec still room sum bf c k (l + 1) (if still ≤ room - (32 : Int32) >>> (nI l &&& 31) ∧ sum + nI l * c < x.1 then rec (room - (32 : Int32) >>> (nI l &&& 31)) (sum + nI l * c) (10 * bf + nI l) x else x)
/-- the search for lengths: m events are left, from e on -/
def tlR (ch : Nat → Int32) : Nat → Nat → Int32 → Int32 → Int32 → tlX → tlX
  | 0, _, _, sum, bf, _ => (sum, bf)
  | m + 1, e, room, sum, bf, x => tlL (tlR ch m (e + 1)) (nI m) room sum bf (ch e) 5 1 x
def cbH (hi : Nat → Nat → Int32) (x : tlX) : Nat → Nat → Int32 := up2 (up2 hi 57 0 x.1) 57 1 x.2
theorem cbH_0 (hi : Nat → Nat → Int32) (x : tlX) (y : Int32) : up2 (cbH hi x) 57 0 y = cbH hi (y, x.2) := by
  unfold cbH
  rw [up2_comm _ _ _ (Or.inr (by decide)), up2_uu]
theorem cbH_1 (hi : Nat → Nat → Int32) (x : tlX) (y : Int32) : up2 (cbH hi x) 57 1 y = cbH hi (x.1, y) := by
  unfold cbH
  rw [up2_uu]
theorem cbH_o (hi : Nat → Nat → Int32) (x : tlX) {b : Nat} (hb : b ≠ 57) : cbH hi x b = hi b := by
  unfold cbH
  rw [up2_o _ _ _ hb, up2_o _ _ _ hb]
section CODES
variable {G : ph_G} {d a r n f dr t sz : Nat} {hi : Nat → Nat → Int32} {hl : Nat → Nat → Int64} {Q : Option Value → ph_H → Prop} {lw : Option Nat}
theorem c_tl_loop {ev e m : Nat} {room sum bf : Int32} {still : Int32} (hf : Fok f) (hev : ev ≤ 6) (hc4 : hi f 4 = nI ev) (hem : e < 6)
    (rec : Int32 → Int32 → Int32 → tlX → tlX)
    (ih : ∀ (room sum bf : Int32) (x : tlX) (Q : Option Value → ph_H → Prop), Q none (HP (cbH hi (rec room sum bf x)) hl f dr t) → Ct G (0, 0) d 7 [.ref 57, .ref f, .int (nI (e + 1)), .int room, .int sum, .int bf] (HP (cbH hi x) hl f dr t) Q)
    (hd : 1 ≤ d) :
    ∀ (k l : Nat) (x : tlX) (x8 x9 : Option Value), l + k = 6 → Q none (HP (cbH hi (tlL rec still room sum bf (hi (f + 3) (e * 2 + 1)) k l x)) hl f dr t) →
    wq G (0, 0) (d + 1) 7 34 [some (.ref 57), some (.ref f), some (.int (nI e)), some (.int room), some (.int sum), some (.int bf), some (.int still), some (.int (nI l)), x8, x9] [] (0, 0) (HP (cbH hi x) hl f dr t) Q := by
  have hf57 : f + 3 ≠ 57 := by rcases hf with rfl | rfl <;> decide
  intro k
  induction k with
  | zero =>
    intro l x x8 x9 hl' hQ
    refine wq_iload q7_34 rfl ?_
    refine wq_iconst q7_36 ?_
    refine wq_icmp_gt q7_37 (fun c37 => ?_) (fun c37 => ?_)
    · refine rV q7_104 ?_
      exact hQ
    · rw [show (5 : Int32) = nI 5 from rfl, nI_ltI (by omega) (by omega)] at c37
      omega
  | succ k ihk =>
    intro l x x8 x9 hl' hQ
    obtain ⟨f1, -⟩ := hf.frt (cbH hi x) hl f dr t
    have e3 : hI (HP (cbH hi x) hl f dr t) (f + 3) = hi (f + 3) := cbH_o _ _ hf57
    rw [tlL] at hQ
    refine wq_iload q7_34 rfl ?_
    refine wq_iconst q7_36 ?_
    refine wq_icmp_gt q7_37 (fun c37 => ?_) (fun c37 => ?_)
    · rw [show (5 : Int32) = nI 5 from rfl, nI_ltI (by omega) (by omega)] at c37
      omega
    · refine wq_iload_n q7_40 rfl ?_
      refine wq_bipush q7_41 ?_
      refine wq_iload q7_43 rfl ?_
      refine wq_ishr q7_45 ?_
      refine wq_isub q7_46 ?_
      refine wq_istore (ls' := [_, _, _, _, _, _, _, _, _, _]) q7_47 rfl ?_
      refine wq_iload q7_49 rfl ?_
      refine wq_iload q7_51 rfl ?_
      refine wq_aload_n q7_53 rfl ?_
      refine wq_iload_n q7_54 rfl ?_
      refine cV (As := [_]) q7_55 m_26 rfl rfl (by first | exact f1 | rfl) ⟨by decide, rfl⟩ rfl (c_chance (by exact hf.frt _ hl f dr t) hem ?_)
      rw [e3]
      refine wq_imul q7_58 ?_
      refine wq_iadd q7_59 ?_
      refine wq_istore (ls' := [_, _, _, _, _, _, _, _, _, _]) q7_60 rfl ?_
      refine wq_iload q7_62 rfl ?_
      refine wq_iload q7_64 rfl ?_
      refine wq_icmp_lt q7_66 (fun c66 => ?_) (fun c66 => ?_)
      · rw [if_neg (fun z => absurd z.1 (Int32.not_le.mpr c66))] at hQ
        refine wq_iinc (ls' := [_, _, _, _, _, _, _, _, _, _]) q7_98 rfl rfl ?_
        refine wq_goto q7_101 ?_
        rw [nI_1]
        exact ihk (l + 1) x _ _ (by omega) hQ
      · refine wq_iload q7_69 rfl ?_
        refine wq_aload_n q7_71 rfl ?_
        refine wq_getI q7_72 rfl rfl ?_
        refine wq_icmp_ge q7_75 (fun c75 => ?_) (fun c75 => ?_)
        · rw [if_neg (fun z => absurd z.2 (Int32.not_lt.mpr c75))] at hQ
          refine wq_iinc (ls' := [_, _, _, _, _, _, _, _, _, _]) q7_98 rfl rfl ?_
          refine wq_goto q7_101 ?_
          rw [nI_1]
          exact ihk (l + 1) x _ _ (by omega) hQ
        · rw [if_pos ⟨Int32.not_lt.mp c66, Int32.not_le.mp c75⟩] at hQ
          refine wq_aload_n q7_78 rfl ?_
          refine wq_aload_n q7_79 rfl ?_
          refine wq_iload_n q7_80 rfl ?_
          refine wq_iconst q7_81 ?_
          refine wq_iadd q7_82 ?_
          refine wq_iload q7_83 rfl ?_
          refine wq_iload q7_85 rfl ?_
          refine wq_bipush q7_87 ?_
          refine wq_iload q7_89 rfl ?_
          refine wq_imul q7_91 ?_
          refine wq_iload q7_92 rfl ?_
          refine wq_iadd q7_94 ?_
          rw [nI_1]
          refine cV (As := [_, _, _, _, _]) q7_95 m_7 rfl rfl rfl ⟨by decide, rfl⟩ rfl (ih _ _ _ _ _ ?_)
          refine wq_iinc (ls' := [_, _, _, _, _, _, _, _, _, _]) q7_98 rfl rfl ?_
          refine wq_goto q7_101 ?_
          rw [nI_1]
          exact ihk (l + 1) _ _ _ (by omega) hQ
theorem c_tryLengths {ev : Nat} (hf : Fok f) (hev : ev ≤ 6) (hc4 : hi f 4 = nI ev) : ∀ (m e : Nat) (room sum bf : Int32) (x : tlX) (Q : Option Value → ph_H → Prop), e + m = ev → Q none (HP (cbH hi (tlR (fun e => hi (f + 3) (e * 2 + 1)) m e room sum bf x)) hl f dr t) →
    Ct G (0, 0) (d + 1 + m) 7 [.ref 57, .ref f, .int (nI e), .int room, .int sum, .int bf] (HP (cbH hi x) hl f dr t) Q := by
  have hf57 : f ≠ 57 := by rcases hf with rfl | rfl <;> decide
  have ec : ∀ x, hI (HP (cbH hi x) hl f dr t) f 4 = nI ev := fun x => by show cbH hi x f 4 = _; rw [cbH_o _ _ hf57]; exact hc4
  intro m
  induction m with
  | zero =>
    intro e room sum bf x Q hem hQ
    obtain ⟨f1, -⟩ := hf.frt (cbH hi x) hl f dr t
    refine Ct_of (ls := [_, _, _, _, _, _, _, _, _, _]) m_7.1.2.2.1 (Nat.le_of_ble_eq_true rfl) rfl ?_
    refine wq_iload_n q7_0 rfl ?_
    refine wq_aload_n q7_1 rfl ?_
    refine wq_getI q7_2 (by first | exact f1 | rfl) rfl ?_
    refine wq_icmp_lt q7_5 (fun c5 => ?_) (fun c5 => ?_)
    · rw [ec, nI_ltI (by omega) (by omega)] at c5
      omega
    · refine wq_aload_n q7_8 rfl ?_
      refine wq_iload q7_9 rfl ?_
      refine wq_putI q7_11 rfl rfl rfl rfl ?_
      refine wq_aload_n q7_14 rfl ?_
      refine wq_iload q7_15 rfl ?_
      refine wq_putI q7_17 rfl rfl rfl rfl ?_
      refine rV q7_20 ?_
      rw [hpS, hpS, cbH_0, cbH_1]
      exact hQ
  | succ m ih =>
    intro e room sum bf x Q hem hQ
    obtain ⟨f1, -⟩ := hf.frt (cbH hi x) hl f dr t
    refine Ct_of (ls := [_, _, _, _, _, _, _, _, _, _]) m_7.1.2.2.1 (Nat.le_of_ble_eq_true rfl) rfl ?_
    refine wq_iload_n q7_0 rfl ?_
    refine wq_aload_n q7_1 rfl ?_
    refine wq_getI q7_2 (by first | exact f1 | rfl) rfl ?_
    refine wq_icmp_lt q7_5 (fun c5 => ?_) (fun c5 => ?_)
    · refine wq_aload_n q7_21 rfl ?_
      refine wq_getI q7_22 (by first | exact f1 | rfl) rfl ?_
      rw [ec]
      refine wq_iload_n q7_25 rfl ?_
      refine wq_isub q7_26 ?_
      rw [pk_sub (by omega), show ev - e = m + 1 by omega]
      refine wq_iconst q7_27 ?_
      refine wq_isub q7_28 ?_
      refine wq_istore (ls' := [_, _, _, _, _, _, _, _, _, _]) q7_29 rfl ?_
      refine wq_iconst q7_31 ?_
      refine wq_istore (ls' := [_, _, _, _, _, _, _, _, _, _]) q7_32 rfl ?_
      rw [nI_pred]
      exact c_tl_loop (m := m) hf hev hc4 (by omega) (tlR (fun e => hi (f + 3) (e * 2 + 1)) m (e + 1)) (fun room sum bf x Q hq => ih (e + 1) room sum bf x Q (by omega) hq) (by omega) 5 1 x _ _ (by omega) hQ
    · rw [ec, nI_ltI (by omega) (by omega)] at c5
      omega
theorem c_cforget (hQ : Q none (HP (up2 hi 57 2 0) hl f dr t)) : Ct G (0, 0) d 5 [.ref 57] (HP hi hl f dr t) Q := by
  refine Ct_of (ls := [_]) m_5.1.2.2.1 (Nat.le_of_ble_eq_true rfl) rfl ?_
  refine wq_aload_n q5_0 rfl ?_
  refine wq_iconst q5_1 ?_
  refine wq_putI q5_2 rfl rfl rfl rfl ?_
  refine rV q5_5 ?_
  exact hQ
/-- what a search leaves -/
def seaH (hi : Nat → Nat → Int32) (f ev : Nat) : Nat → Nat → Int32 := if hi 57 2 = 0 then up2 (cbH hi (tlR (fun e => hi (f + 3) (e * 2 + 1)) ev 0 32 0 0 (2147483647, 0))) 57 2 1 else hi
theorem c_search {ev : Nat} (hf : Fok f) (hev : ev ≤ 6) (hc4 : hi f 4 = nI ev) (hQ : Q none (HP (seaH hi f ev) hl f dr t)) : Ct G (0, 0) (d + 8) 6 [.ref 57, .ref f] (HP hi hl f dr t) Q := by
  refine Ct_of (ls := [_, _]) m_6.1.2.2.1 (Nat.le_of_ble_eq_true rfl) rfl ?_
  refine wq_aload_n q6_0 rfl ?_
  refine wq_getI q6_1 rfl rfl ?_
  refine wq_if_ne q6_4 (fun c4 => ?_) (fun c4 => ?_)
  · refine rV q6_33 ?_
    unfold seaH at hQ
    rw [if_neg (show ¬ hi 57 2 = 0 from c4)] at hQ
    exact hQ
  · unfold seaH at hQ
    rw [if_pos (show hi 57 2 = 0 from c4)] at hQ
    refine wq_aload_n q6_7 rfl ?_
    refine wq_ldc q6_8 ?_
    refine wq_putI q6_10 rfl rfl rfl rfl ?_
    refine wq_aload_n q6_13 rfl ?_
    refine wq_iconst q6_14 ?_
    refine wq_putI q6_15 rfl rfl rfl rfl ?_
    refine wq_aload_n q6_18 rfl ?_
    refine wq_aload_n q6_19 rfl ?_
    refine wq_iconst q6_20 ?_
    refine wq_bipush q6_21 ?_
    refine wq_iconst q6_23 ?_
    refine wq_iconst q6_24 ?_
    have key := c_tryLengths (G := G) (d := d + 6 - ev) (hi := hi) (hl := hl) (dr := dr) (t := t) hf hev hc4 ev 0 32 0 0 (2147483647, 0)
    have ed : d + 6 - ev + 1 + ev = d + 7 := by omega
    rw [ed] at key
    refine cV (As := [_, _, _, _, _]) q6_25 m_7 rfl rfl rfl ⟨by decide, rfl⟩ rfl (key _ (by omega) ?_)
    refine wq_aload_n q6_28 rfl ?_
    refine wq_iconst q6_29 ?_
    refine wq_putI q6_30 rfl rfl rfl rfl ?_
    refine rV q6_33 ?_
    exact hQ
theorem c_codes {ev : Nat} {w : Int32} (hf : Fok f) (hev : ev ≤ 6) (hc4 : hi f 4 = nI ev) (h0 : ¬ (0 < hi f 3 ∧ 0 ≤ w ∧ w ≤ 1) → Q (some (.int (-1))) (HP hi hl f dr t))
    (h1 : 0 < hi f 3 → 0 ≤ w → w ≤ 1 → Q (some (.int (if w = 0 then seaH hi f ev 57 1 else seaH hi f ev 57 0))) (HP (seaH hi f ev) hl f dr t)) : Ct G (0, 0) (d + 9) 149 [.ref 0, .int w] (HP hi hl f dr t) Q := by
  obtain ⟨f1, -⟩ := hf.frt hi hl f dr t
  refine Ct_of (ls := [_, _]) m_149.1.2.2.1 (Nat.le_of_ble_eq_true rfl) rfl ?_
  refine wq_aload_n q149_0 rfl ?_
  refine cV (As := []) q149_1 m_102 rfl rfl rfl ⟨by decide, rfl⟩ rfl (c_hasFort hf ?_)
  refine wq_if_eq q149_4 (fun c4 => ?_) (fun c4 => ?_)
  · have c := p01 c4
    refine wq_iconst q149_16 ?_
    refine rI q149_17 rfl ?_
    exact h0 (fun z => c z.1)
  · have c := p10 c4
    refine wq_iload_n q149_7 rfl ?_
    refine wq_if_lt q149_8 (fun c8 => ?_) (fun c8 => ?_)
    · refine wq_iconst q149_16 ?_
      refine rI q149_17 rfl ?_
      exact h0 (fun z => absurd z.2.1 (Int32.not_le.mpr c8))
    · refine wq_iload_n q149_11 rfl ?_
      refine wq_iconst q149_12 ?_
      refine wq_icmp_le q149_13 (fun c13 => ?_) (fun c13 => ?_)
      · have h1 := h1 c (Int32.not_lt.mp c8) c13
        refine wq_aload_n q149_18 rfl ?_
        refine wq_getR q149_19 (by first | exact f1 | rfl) rfl (by first | exact f1 | rfl) ?_
        refine wq_aload_n q149_22 rfl ?_
        refine wq_getR q149_23 (by first | exact f1 | rfl) rfl (by first | exact f1 | rfl) ?_
        refine cV (As := [_]) q149_26 m_6 rfl rfl (by first | exact f1 | rfl) ⟨by decide, rfl⟩ rfl (c_search hf hev hc4 ?_)
        refine wq_iload_n q149_29 rfl ?_
        refine wq_if_ne q149_30 (fun c30 => ?_) (fun c30 => ?_)
        · rw [if_neg c30] at h1
          refine wq_aload_n q149_43 rfl ?_
          refine wq_getR q149_44 rfl rfl rfl ?_
          refine wq_getI q149_47 rfl rfl ?_
          refine rI q149_50 rfl ?_
          exact h1
        · rw [if_pos c30] at h1
          refine wq_aload_n q149_33 rfl ?_
          refine wq_getR q149_34 rfl rfl rfl ?_
          refine wq_getI q149_37 rfl rfl ?_
          refine wq_goto q149_40 ?_
          refine rI q149_50 rfl ?_
          exact h1
      · refine wq_iconst q149_16 ?_
        refine rI q149_17 rfl ?_
        exact h0 (fun z => c13 z.2.2)
/-- what is asked of a prisoner -/
def prV' (hi : Nat → Nat → Int32) (f n p : Nat) (w : Int32) : Int32 :=
  if w = 0 then nI (ceOf (hi 39) (nI p) (n - 1) 0) else if w = 1 then hi (f + 2) (p * 5 + 1) else if w = 2 then hi (f + 2) (p * 5 + 2) else if w = 3 then lvO hi f p
  else if w = 4 then hi 39 (7 + p) else if w = 5 then hi 39 (21 + p) else hi 39 (14 + p)
theorem c_prisoner {p : Nat} {w : Int32} (hf : Fok f) (hn : n ≤ 7) (hc : hi f 3 = nI n) (hp : p < n) (hw : inB w 7 = true) (hQ : Q (some (.int (prV' hi f n p w))) (HP hi hl f dr t)) : Ct G (0, 0) (d + 1) 95 [.ref 0, .int (nI p), .int w] (HP hi hl f dr t) Q := by
  obtain ⟨f1, -⟩ := hf.frt hi hl f dr t
  have hF := hf.frt hi hl f dr t
  have hs : Sok 38 39 := Or.inl ⟨rfl, rfl⟩
  have ec : hI (HP hi hl f dr t) f 3 = nI n := hc
  refine Ct_of (ls := [_, _, _]) m_95.1.2.2.1 (Nat.le_of_ble_eq_true rfl) rfl ?_
  refine wq_aload_n q95_0 rfl ?_
  refine wq_iload_n q95_1 rfl ?_
  refine cV (As := [_]) q95_2 m_103 rfl rfl rfl ⟨by decide, rfl⟩ rfl (c_isPrisoner hf ?_)
  refine wq_if_ne q95_5 (fun c5 => ?_) (fun c5 => ?_)
  · refine wq_iload_n q95_18 rfl ?_
    refine wq_switch q95_19 [60, 76, 85, 94, 103, 116, 129] (by decide) (fun c19 => ?_) (fun i t ht c19 => ?_)
    · simp only [inB, Bool.and_eq_true, decide_eq_true_eq] at hw
      have a1 := Int32.le_iff_toInt_le.mp hw.1
      have a2 := Int32.lt_iff_toInt_lt.mp hw.2
      have e0 : (0 : Int32).toInt = 0 := rfl
      have e7 : (7 : Int32).toInt = 7 := rfl
      omega
    · match i, ht, c19 with
      | 0, ht, c19 =>
        cases ht
        obtain rfl : w = (0 : Int32) := Int32.toInt_inj.mp (by rw [c19]; rfl)
        refine wq_aload_n q95_60 rfl ?_
        refine wq_getR q95_61 (by first | exact f1 | rfl) rfl (by first | exact f1 | rfl) ?_
        refine wq_iload_n q95_64 rfl ?_
        refine wq_aload_n q95_65 rfl ?_
        refine wq_getR q95_66 (by first | exact f1 | rfl) rfl (by first | exact f1 | rfl) ?_
        refine wq_getI q95_69 (by first | exact f1 | rfl) rfl ?_
        rw [ec]
        refine cV (As := [_, _]) q95_72 m_57 rfl rfl rfl ⟨by decide, rfl⟩ rfl (c_cellOf (hs.scn _ _ _ _ _) hn (by omega) ?_)
        refine rI q95_75 rfl ?_
        exact hQ
      | 1, ht, c19 =>
        cases ht
        obtain rfl : w = (1 : Int32) := Int32.toInt_inj.mp (by rw [c19]; rfl)
        refine wq_aload_n q95_76 rfl ?_
        refine wq_getR q95_77 (by first | exact f1 | rfl) rfl (by first | exact f1 | rfl) ?_
        refine wq_iload_n q95_80 rfl ?_
        refine cV (As := [_]) q95_81 m_21 rfl rfl (by first | exact f1 | rfl) ⟨by decide, rfl⟩ rfl (c_merit hF (by omega) ?_)
        refine rI q95_84 rfl ?_
        exact hQ
      | 2, ht, c19 =>
        cases ht
        obtain rfl : w = (2 : Int32) := Int32.toInt_inj.mp (by rw [c19]; rfl)
        refine wq_aload_n q95_85 rfl ?_
        refine wq_getR q95_86 (by first | exact f1 | rfl) rfl (by first | exact f1 | rfl) ?_
        refine wq_iload_n q95_89 rfl ?_
        refine cV (As := [_]) q95_90 m_22 rfl rfl (by first | exact f1 | rfl) ⟨by decide, rfl⟩ rfl (c_honesty hF (by omega) ?_)
        refine rI q95_93 rfl ?_
        exact hQ
      | 3, ht, c19 =>
        cases ht
        obtain rfl : w = (3 : Int32) := Int32.toInt_inj.mp (by rw [c19]; rfl)
        refine wq_aload_n q95_94 rfl ?_
        refine wq_getR q95_95 (by first | exact f1 | rfl) rfl (by first | exact f1 | rfl) ?_
        refine wq_iload_n q95_98 rfl ?_
        refine cV (As := [_]) q95_99 m_23 rfl rfl (by first | exact f1 | rfl) ⟨by decide, rfl⟩ rfl (c_leavesOut hF (by omega) ?_)
        refine rI q95_102 rfl ?_
        exact hQ
      | 4, ht, c19 =>
        cases ht
        obtain rfl : w = (4 : Int32) := Int32.toInt_inj.mp (by rw [c19]; rfl)
        refine wq_aload_n q95_103 rfl ?_
        refine wq_getR q95_104 rfl rfl rfl ?_
        refine wq_getR q95_107 rfl rfl rfl ?_
        refine wq_bipush q95_110 ?_
        refine wq_iload_n q95_112 rfl ?_
        refine wq_iadd q95_113 ?_
        refine aI q95_114 rfl (nI_add 7 _) (by show 7 + p < 33; omega) (by first | decide | omega) ?_
        refine rI q95_115 rfl ?_
        exact hQ
      | 5, ht, c19 =>
        cases ht
        obtain rfl : w = (5 : Int32) := Int32.toInt_inj.mp (by rw [c19]; rfl)
        refine wq_aload_n q95_116 rfl ?_
        refine wq_getR q95_117 rfl rfl rfl ?_
        refine wq_getR q95_120 rfl rfl rfl ?_
        refine wq_bipush q95_123 ?_
        refine wq_iload_n q95_125 rfl ?_
        refine wq_iadd q95_126 ?_
        refine aI q95_127 rfl (nI_add 21 _) (by show 21 + p < 33; omega) (by first | decide | omega) ?_
        refine rI q95_128 rfl ?_
        exact hQ
      | 6, ht, c19 =>
        cases ht
        obtain rfl : w = (6 : Int32) := Int32.toInt_inj.mp (by rw [c19]; rfl)
        refine wq_aload_n q95_129 rfl ?_
        refine wq_getR q95_130 rfl rfl rfl ?_
        refine wq_getR q95_133 rfl rfl rfl ?_
        refine wq_bipush q95_136 ?_
        refine wq_iload_n q95_138 rfl ?_
        refine wq_iadd q95_139 ?_
        refine aI q95_140 rfl (nI_add 14 _) (by show 14 + p < 33; omega) (by first | decide | omega) ?_
        refine rI q95_141 rfl ?_
        exact hQ
      | i + 7, ht, _ => simp at ht
  · have c := i01 c5
    rw [hc, inB_t (nI_pos (by omega)) (nI_ge (by omega) (by omega))] at c
    cases c
end CODES
