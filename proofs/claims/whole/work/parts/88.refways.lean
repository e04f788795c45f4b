/-! THE REFERENCE: walls, escapes, wearing, counts -/
theorem mx0_ge (y : Int32) : 0 ≤ mx0 y := by
  unfold mx0
  split
  · rename_i h
    rw [Int32.lt_iff_toInt_lt] at h
    rw [Int32.le_iff_toInt_le]
    omega
  · decide
theorem bw_ge {hi : Nat → Nat → Int32} {f : Nat} {lw : Option Nat} {sz v w c : Nat} {row : Nat → Int32} {s : Nat → Nat} {x : Int32} : 0 ≤ bwC hi f lw sz v row s w c x := by
  unfold bwC bhV
  split
  · exact mx0_ge _
  · decide
theorem spC_ge {bw : Nat → Nat → Int32 → Int32} {fr : Nat} {l : Int32} (hl : 0 ≤ l) (hb : ∀ w c x, 0 ≤ bw w c x) (c : Nat) : 0 ≤ spC bw fr l c := by
  unfold spC
  split
  · cases c - fr with
    | zero => exact hl
    | succ k => exact hb _ _ _
  · cases fr - c with
    | zero => exact hl
    | succ k => exact hb _ _ _
theorem le0_eq {x : Int32} (h : 0 ≤ x) : x ≤ 0 ↔ x = 0 := by
  constructor
  · intro h2
    rw [Int32.le_iff_toInt_le] at h h2
    exact Int32.toInt_inj.mp (by omega)
  · rintro rfl
    decide
/-- a set of at most seven -/
theorem set7 {x : Int32} (h : ∀ i, 7 ≤ i → i < 32 → bt x i = false) : ∃ k, k < 128 ∧ x = nI k := by
  obtain ⟨n, hn, rfl⟩ := wb_of32 x
  have hb : ∀ i, i < 32 → bt (nI n) i = n.testBit i := fun i hi => by
    unfold bt
    rw [show (nI n).toBitVec = BitVec.ofNat 32 n from rfl, BitVec.getLsbD_ofNat]
    simp [hi]
  refine ⟨n, ?_, rfl⟩
  refine Nat.lt_pow_two_of_testBit (n := 7) n (fun j hj => ?_)
  by_cases hj2 : j < 32
  · rw [← hb j hj2]
    exact h j hj hj2
  · exact Nat.testBit_lt_two_pow (Nat.lt_of_lt_of_le hn (Nat.pow_le_pow_right (by decide) (by omega)))
theorem bc7 : ∀ k, k < 128 → bc (nI k) < 8 ∧ -1 < bc (nI k) := by decide +kernel
section REFWAYS
variable {G : ph_G} {d f dr t n r ev wi sz lg a : Nat} {hi hi' : Nat → Nat → Int32} {hl : Nat → Nat → Int64} {Q : Option Value → ph_H → Prop} {row : Nat → Int32} {lw : Option Nat}
theorem spV_ge (hF : RF hi f lw sz n ev wi) {v fr c : Nat} {s : Nat → Nat} : 0 ≤ spV hi f lw sz v row s fr c := by
  unfold spV
  refine spC_ge ?_ (fun w c x => bw_ge) c
  have h := (hF.2.2.2.1.1 1 (by decide)).1
  rw [Int32.le_iff_toInt_le] at h ⊢
  rw [show (fLo 0 1).toInt = 1 by decide] at h
  rw [show (0 : Int32).toInt = 0 from rfl]
  omega
theorem c_rwall_down {S : Nat → Int32} {x1 x2 : Int32} (hn : n ≤ 7) (h26 : hi 58 26 = nI n) (hS : ∀ c, c < n → hi 73 c = S c) (hS0 : ∀ c, 0 ≤ S c) : ∀ (k : Nat), k < n → Q (some (.int (waD S k))) (HP hi hl f dr t) →
    wq G (0, 0) (d + 1) 255 58 [some (.ref 58), some (.int x1), some (.int x2), some (.int (-1)), some (.int (nI k))] [] (0, 0) (HP hi hl f dr t) Q := by
  have ec : hI (HP hi hl f dr t) 58 26 = nI n := h26
  intro k
  induction k with
  | zero =>
    intro hk hQ
    refine wq_iload q255_58 rfl ?_
    refine wq_iload_n q255_60 rfl ?_
    refine wq_iadd q255_61 ?_
    refine wq_if_lt q255_62 (fun c62 => ?_) (fun c62 => ?_)
    · refine wq_iconst q255_100 ?_
      refine rI q255_101 rfl ?_
      exact hQ
    · exact absurd (by decide) c62
  | succ k ih =>
    intro hk hQ
    have e1 : nI (k + 1) + -1 = nI k := pk_m1 k
    have eS : hI (HP hi hl f dr t) 73 k = S k := hS k (by omega)
    rw [waD] at hQ
    refine wq_iload q255_58 rfl ?_
    refine wq_iload_n q255_60 rfl ?_
    refine wq_iadd q255_61 ?_
    rw [e1]
    refine wq_if_lt q255_62 (fun c62 => ?_) (fun c62 => ?_)
    · exact absurd c62 (nI_pos (by omega))
    · refine wq_iload q255_65 rfl ?_
      refine wq_iload_n q255_67 rfl ?_
      refine wq_iadd q255_68 ?_
      rw [e1]
      refine wq_aload_n q255_69 rfl ?_
      refine wq_getI q255_70 rfl rfl ?_
      refine wq_icmp_ge q255_73 (fun c73 => ?_) (fun c73 => ?_)
      · rw [ec, nI_leI (by omega) (by omega)] at c73
        omega
      · refine wq_aload_n q255_76 rfl ?_
        refine wq_getR q255_77 rfl rfl rfl ?_
        refine wq_iload q255_80 rfl ?_
        refine wq_iload_n q255_82 rfl ?_
        refine wq_iadd q255_83 ?_
        refine aI q255_84 rfl (e1) (by show k < 7; omega) (by first | decide | omega) ?_
        rw [eS]
        refine wq_if_ne q255_85 (fun c85 => ?_) (fun c85 => ?_)
        · rw [if_neg (fun z => c85 ((le0_eq (hS0 k)).mp z))] at hQ
          refine wq_iload q255_91 rfl ?_
          refine wq_iload_n q255_93 rfl ?_
          refine wq_iadd q255_94 ?_
          refine wq_istore (ls' := [_, _, _, _, _]) q255_95 rfl ?_
          refine wq_goto q255_97 ?_
          rw [e1]
          exact ih (by omega) hQ
        · rw [if_pos ((le0_eq (hS0 k)).mpr c85)] at hQ
          refine wq_iload q255_88 rfl ?_
          refine rI q255_90 rfl ?_
          exact hQ
theorem c_rwall_up {S : Nat → Int32} {x1 x2 : Int32} (hn : n ≤ 7) (h26 : hi 58 26 = nI n) (hS : ∀ c, c < n → hi 73 c = S c) (hS0 : ∀ c, 0 ≤ S c) : ∀ (m c : Nat), c + m = n → 1 ≤ c → Q (some (.int (waU S m c))) (HP hi hl f dr t) →
    wq G (0, 0) (d + 1) 255 58 [some (.ref 58), some (.int x1), some (.int x2), some (.int 1), some (.int (nI (c - 1)))] [] (0, 0) (HP hi hl f dr t) Q := by
  have ec : hI (HP hi hl f dr t) 58 26 = nI n := h26
  intro m
  induction m with
  | zero =>
    intro c hm h1 hQ
    have e1 : nI (c - 1) + 1 = nI c := by rw [nI_1, show c - 1 + 1 = c by omega]
    refine wq_iload q255_58 rfl ?_
    refine wq_iload_n q255_60 rfl ?_
    refine wq_iadd q255_61 ?_
    rw [e1]
    refine wq_if_lt q255_62 (fun c62 => ?_) (fun c62 => ?_)
    · refine wq_iconst q255_100 ?_
      refine rI q255_101 rfl ?_
      exact hQ
    · refine wq_iload q255_65 rfl ?_
      refine wq_iload_n q255_67 rfl ?_
      refine wq_iadd q255_68 ?_
      rw [e1]
      refine wq_aload_n q255_69 rfl ?_
      refine wq_getI q255_70 rfl rfl ?_
      refine wq_icmp_ge q255_73 (fun c73 => ?_) (fun c73 => ?_)
      · refine wq_iconst q255_100 ?_
        refine rI q255_101 rfl ?_
        exact hQ
      · rw [ec, nI_leI (by omega) (by omega)] at c73
        omega
  | succ m ih =>
    intro c hm h1 hQ
    have e1 : nI (c - 1) + 1 = nI c := by rw [nI_1, show c - 1 + 1 = c by omega]
    have eS : hI (HP hi hl f dr t) 73 c = S c := hS c (by omega)
    rw [waU] at hQ
    refine wq_iload q255_58 rfl ?_
    refine wq_iload_n q255_60 rfl ?_
    refine wq_iadd q255_61 ?_
    rw [e1]
    refine wq_if_lt q255_62 (fun c62 => ?_) (fun c62 => ?_)
    · exact absurd c62 (nI_pos (by omega))
    · refine wq_iload q255_65 rfl ?_
      refine wq_iload_n q255_67 rfl ?_
      refine wq_iadd q255_68 ?_
      rw [e1]
      refine wq_aload_n q255_69 rfl ?_
      refine wq_getI q255_70 rfl rfl ?_
      refine wq_icmp_ge q255_73 (fun c73 => ?_) (fun c73 => ?_)
      · rw [ec, nI_leI (by omega) (by omega)] at c73
        omega
      · refine wq_aload_n q255_76 rfl ?_
        refine wq_getR q255_77 rfl rfl rfl ?_
        refine wq_iload q255_80 rfl ?_
        refine wq_iload_n q255_82 rfl ?_
        refine wq_iadd q255_83 ?_
        refine aI q255_84 rfl (e1) (by show c < 7; omega) (by first | decide | omega) ?_
        rw [eS]
        refine wq_if_ne q255_85 (fun c85 => ?_) (fun c85 => ?_)
        · rw [if_neg (fun z => c85 ((le0_eq (hS0 c)).mp z))] at hQ
          refine wq_iload q255_91 rfl ?_
          refine wq_iload_n q255_93 rfl ?_
          refine wq_iadd q255_94 ?_
          refine wq_istore (ls' := [_, _, _, _, _]) q255_95 rfl ?_
          refine wq_goto q255_97 ?_
          rw [e1, show c = c + 1 - 1 by omega]
          exact ih (c + 1) (by omega) (by omega) hQ
        · rw [if_pos ((le0_eq (hS0 c)).mpr c85), nI_m1 h1] at hQ
          refine wq_iload q255_88 rfl ?_
          refine rI q255_90 rfl ?_
          exact hQ
theorem c_rwall {x y : Int32} (hF : RF hi f lw sz n ev wi) (hw : RW n row (hi 71)) (h0 : ¬ (inB x (nI ev) = true ∧ 0 ≤ y ∧ y ≤ 1) → Q (some (.int (-1))) (HP (up2 hi 58 0 0) hl f dr t))
    (h1 : ∀ v hi' t', v < ev → x = nI v → 0 ≤ y → y ≤ 1 → RS hi hi' → Q (some (.int (if y = 0 then waD (spV hi f lw sz v row (sOf row) wi) wi else waU (spV hi f lw sz v row (sOf row) wi) (n - (wi + 1)) (wi + 1)))) (HP hi' hl f dr t')) : Ct G (0, 0) (d + 35) 255 [.ref 58, .int x, .int y] (HP hi hl f dr t) Q := by
  have hn := hF.2.1.1
  have hev := hF.2.1.2.2.1
  have hwi := hF.2.1.2.2.2.1
  have hr0 : RS hi (up2 hi 58 0 0) := RS.upK (by decide) _
  have hF0 := hr0.mv hF
  have e27 : up2 hi 58 0 0 58 27 = nI ev := hF.2.2.1.2.1
  have e63 : hI (HP (up2 hi 58 0 0) hl f dr t) 63 0 = nI wi := (hF0.2.2.1.2.2.1 0 (by decide)).trans hF0.2.1.2.2.2.2.2.2
  refine Ct_of (ls := [_, _, _, _, _]) m_255.1.2.2.1 (Nat.le_of_ble_eq_true rfl) rfl ?_
  refine wq_aload_n q255_0 rfl ?_
  refine wq_iconst q255_1 ?_
  refine wq_putI q255_2 rfl rfl rfl rfl ?_
  rw [hpS]
  refine wq_aload_n q255_5 rfl ?_
  refine wq_iload_n q255_6 rfl ?_
  refine cV (As := [_]) q255_7 m_210 rfl rfl rfl ⟨by decide, rfl⟩ rfl (c_risEvent ?_)
  refine wq_if_eq q255_10 (fun c10 => ?_) (fun c10 => ?_)
  · have c := i01 c10
    rw [e27] at c
    refine wq_iconst q255_23 ?_
    refine rI q255_24 rfl ?_
    exact h0 (fun z => by rw [z.1] at c; cases c)
  · have c := i10 c10
    rw [e27] at c
    obtain ⟨v, hv, rfl⟩ := inB_N (m := ev) (by omega) c
    refine wq_iload_n q255_13 rfl ?_
    refine wq_i2l q255_14 ?_
    refine wq_lconst q255_15 ?_
    refine wq_lconst q255_16 ?_
    refine cS' (As := [_, _, _]) q255_17 m_170 rfl rfl rfl (c_isIn ?_)
    refine wq_if_ne q255_20 (fun c20 => ?_) (fun c20 => ?_)
    · have cw := iiB_01.mp (i10 c20)
      refine wq_aload_n q255_25 rfl ?_
      refine wq_aload_n q255_26 rfl ?_
      refine wq_getR q255_27 rfl rfl rfl ?_
      refine wq_aload_n q255_30 rfl ?_
      refine wq_getR q255_31 rfl rfl rfl ?_
      refine wq_iconst q255_34 ?_
      refine aI q255_35 rfl (rfl) (by decide) (by first | decide | omega) ?_
      rw [e63]
      refine wq_iload_n q255_36 rfl ?_
      refine cV (As := [_, _, _]) q255_37 m_215 rfl rfl rfl ⟨by decide, rfl⟩ rfl (c_rknocks (d := d) hF0 (Or.inl rfl) hw hv hwi (fun hi1 t1 hN hS => ?_))
      have hq := h1 v hi1 t1 hv rfl cw.1 cw.2 (hr0.tr hN.rs)
      have hF1 := hN.mv hF0
      have eS : spV (up2 hi 58 0 0) f lw sz v row (sOf row) wi = spV hi f lw sz v row (sOf row) wi := spV_congr (hr0.fl hF).2.1 (hr0.fl hF).2.2.1 (hr0.fl hF).2.2.2.1 (fun a ha => ((hr0.fl hF).2.2.2.2 a ha).2)
      rw [eS] at hS
      have e63' : hI (HP hi1 hl f dr t1) 63 0 = nI wi := (hF1.2.2.1.2.2.1 0 (by decide)).trans hF1.2.1.2.2.2.2.2.2
      refine wq_iload_n q255_40 rfl ?_
      refine wq_if_ne q255_41 (fun c41 => ?_) (fun c41 => ?_)
      · rw [if_neg c41] at hq
        refine wq_iconst q255_48 ?_
        refine wq_istore_n (ls' := [_, _, _, _, _]) q255_49 rfl ?_
        refine wq_aload_n q255_50 rfl ?_
        refine wq_getR q255_51 rfl rfl rfl ?_
        refine wq_iconst q255_54 ?_
        refine aI q255_55 rfl (rfl) (by decide) (by first | decide | omega) ?_
        rw [e63']
        refine wq_istore (ls' := [_, _, _, _, _]) q255_56 rfl ?_
        exact c_rwall_up (d := d + 34) hn hF1.2.2.1.1 hS (fun c => spV_ge hF) (n - (wi + 1)) (wi + 1) (by omega) (by omega) hq
      · rw [if_pos c41] at hq
        refine wq_iconst q255_44 ?_
        refine wq_goto q255_45 ?_
        refine wq_istore_n (ls' := [_, _, _, _, _]) q255_49 rfl ?_
        refine wq_aload_n q255_50 rfl ?_
        refine wq_getR q255_51 rfl rfl rfl ?_
        refine wq_iconst q255_54 ?_
        refine aI q255_55 rfl (rfl) (by decide) (by first | decide | omega) ?_
        rw [e63']
        refine wq_istore (ls' := [_, _, _, _, _]) q255_56 rfl ?_
        exact c_rwall_down (d := d + 34) hn hF1.2.2.1.1 hS (fun c => spV_ge hF) wi hwi hq
    · have cw := i01 c20
      refine wq_iconst q255_23 ?_
      refine rI q255_24 rfl ?_
      exact h0 (fun z => by rw [iiB_01.mpr z.2] at cw; cases cw)
/-- escapes: the class's best so far and the reference's -/
def ER (x y : Int32 × Int32) : Prop := (y = x ∧ ¬ x.1 = -1) ∨ (x = (-1, 8) ∧ y = (-1, 0))
theorem c_rescape_loop {v : Nat} {set : Int32} {H : Nat → Int32} (hF : RF hi f lw sz n ev wi) (hw : RW n row (hi 71)) (hv : v < ev) (hH : ∀ c, H c = heV hi f lw sz n v row c) (hset : ∀ c, c < n → bc (H c &&& (set ^^^ (-1))) < 8) :
    ∀ (m c : Nat) (x y : Int32 × Int32) (hi' : Nat → Nat → Int32) (t' : Nat) (x6 x7 x8 : Option Value), c + m = n → RS hi hi' → ER x y → (∀ hi2 t2, RS hi hi2 → Q (some (.int (escR H row set m c x).1)) (HP hi2 hl f dr t2)) →
    wq G (0, 0) (d + 36) 276 44 [some (.ref 58), some (.int set), some (.int (nI v)), some (.int y.1), some (.int y.2), some (.int (nI c)), x6, x7, x8] [] (0, 0) (HP hi' hl f dr t') Q := by
  have hn := hF.2.1.1
  intro m
  induction m with
  | zero =>
    intro c x y hi' t' x6 x7 x8 hm hS hxy hQ
    obtain rfl : c = n := by omega
    have ec : hI (HP hi' hl f dr t') 58 26 = nI c := (hS.2.1 26 (by decide)).trans hF.2.2.1.1
    have e1 : y.1 = x.1 := by rcases hxy with ⟨rfl, -⟩ | ⟨rfl, rfl⟩ <;> rfl
    refine wq_iload q276_44 rfl ?_
    refine wq_aload_n q276_46 rfl ?_
    refine wq_getI q276_47 rfl rfl ?_
    refine wq_icmp_ge q276_50 (fun c50 => ?_) (fun c50 => ?_)
    · refine wq_iload_n q276_132 rfl ?_
      refine rI q276_133 rfl ?_
      rw [e1]
      exact hQ hi' t' hS
    · rw [ec] at c50
      exact absurd (nI_le (Nat.le_refl _) (by omega)) c50
  | succ m ih =>
    intro c x y hi' t' x6 x7 x8 hm hS hxy hQ
    have ec : hI (HP hi' hl f dr t') 58 26 = nI n := (hS.2.1 26 (by decide)).trans hF.2.2.1.1
    have hF' := hS.mv hF
    have e71 : hi' 71 = hi 71 := hS.1 71 (by decide)
    have hw' : RW n row (hi' 71) := by rw [e71]; exact hw
    rw [escR] at hQ
    refine wq_iload q276_44 rfl ?_
    refine wq_aload_n q276_46 rfl ?_
    refine wq_getI q276_47 rfl rfl ?_
    refine wq_icmp_ge q276_50 (fun c50 => ?_) (fun c50 => ?_)
    · rw [ec, nI_leI (by omega) (by omega)] at c50
      omega
    · refine wq_aload_n q276_53 rfl ?_
      refine wq_iload q276_54 rfl ?_
      refine wq_iload_n q276_56 rfl ?_
      refine cV (As := [_, _]) q276_57 m_275 rfl rfl rfl ⟨by decide, rfl⟩ rfl (c_rhears (d := d) hF' hw' hv (show c < n by omega) (fun hi2 t2 hN => ?_))
      rw [heV_congr (hS.fl hF), ← hH c]
      have hS2 := hS.tr hN.rs
      have hF2 := hS2.mv hF
      have e712 : hi2 71 = hi 71 := hS2.1 71 (by decide)
      have hw2 : RW n row (hi2 71) := by rw [e712]; exact hw
      refine wq_istore (ls' := [_, _, _, _, _, _, _, _, _]) q276_60 rfl ?_
      refine wq_iload_n q276_62 rfl ?_
      refine wq_iconst q276_63 ?_
      refine wq_aload_n q276_64 rfl ?_
      refine wq_aload_n q276_65 rfl ?_
      refine wq_getR q276_66 rfl rfl rfl ?_
      refine wq_iload q276_69 rfl ?_
      refine cV (As := [_, _]) q276_71 m_212 rfl rfl rfl ⟨by decide, rfl⟩ rfl (c_inCell (Or.inl rfl) hn hF2.2.2.1.1 hw2 (show c < n by omega) ?_)
      refine wq_ishl q276_74 ?_
      refine wq_iconst q276_75 ?_
      refine wq_ixor q276_76 ?_
      refine wq_iand q276_77 ?_
      refine wq_istore (ls' := [_, _, _, _, _, _, _, _, _]) q276_78 rfl ?_
      refine wq_iload q276_80 rfl ?_
      refine wq_iload q276_82 rfl ?_
      refine wq_iconst q276_84 ?_
      refine wq_ixor q276_85 ?_
      refine wq_iand q276_86 ?_
      refine wq_if_eq q276_87 (fun c87 => ?_) (fun c87 => ?_)
      · refine wq_iload q276_93 rfl ?_
        refine wq_iload_n q276_95 rfl ?_
        refine wq_iconst q276_96 ?_
        refine wq_ixor q276_97 ?_
        refine wq_iand q276_98 ?_
        refine cS' (As := [_]) q276_99 m_295 rfl rfl rfl (c_bitCount ?_)
        have fin : (y.1 = -1 ∨ bc (H c &&& (set ^^^ (-1))) < y.2) → ∀ x6 x7, wq G (0, 0) (d + 36) 276 119 [some (.ref 58), some (.int set), some (.int (nI v)), some (.int y.1), some (.int y.2), some (.int (nI c)), some (.int x6), some (.int x7), some (.int (bc (H c &&& (set ^^^ (-1)))))] [] (0, 0) (HP hi2 hl f dr t2) Q := by
          intro hy x6 x7
          have hx : bc (H c &&& (set ^^^ (-1))) < x.2 := by
            rcases hxy with ⟨rfl, hne⟩ | ⟨rfl, rfl⟩
            · exact hy.elim (fun z => absurd z hne) id
            · exact hset c (by omega)
          have e : escS H row set c x = (nI c, bc (H c &&& (set ^^^ (-1)))) := by unfold escS; rw [if_pos ⟨c87, hx⟩]
          rw [e] at hQ
          refine wq_iload q276_119 rfl ?_
          refine wq_istore_n (ls' := [_, _, _, _, _, _, _, _, _]) q276_121 rfl ?_
          refine wq_iload q276_122 rfl ?_
          refine wq_istore (ls' := [_, _, _, _, _, _, _, _, _]) q276_124 rfl ?_
          refine wq_iinc (ls' := [_, _, _, _, _, _, _, _, _]) q276_126 rfl rfl ?_
          refine wq_goto q276_129 ?_
          rw [nI_1]
          exact ih (c + 1) (nI c, bc (H c &&& (set ^^^ (-1)))) (nI c, bc (H c &&& (set ^^^ (-1)))) hi2 t2 _ _ _ (by omega) hS2 (Or.inl ⟨rfl, nI_nm1 (by omega)⟩) hQ
        refine wq_istore (ls' := [_, _, _, _, _, _, _, _, _]) q276_102 rfl ?_
        refine wq_iload_n q276_104 rfl ?_
        refine wq_iconst q276_105 ?_
        refine wq_icmp_eq q276_106 (fun c106 => ?_) (fun c106 => ?_)
        · exact fin (Or.inl c106) _ _
        · refine wq_iload q276_109 rfl ?_
          refine wq_iload q276_111 rfl ?_
          refine wq_icmp_lt q276_113 (fun c113 => ?_) (fun c113 => ?_)
          · exact fin (Or.inr c113) _ _
          · have hne : y = x := by
              rcases hxy with ⟨h, -⟩ | ⟨-, rfl⟩
              · exact h
              · exact absurd rfl c106
            have e : escS H row set c x = x := by unfold escS; rw [if_neg (fun z => c113 (by rw [hne]; exact z.2))]
            rw [e] at hQ
            refine wq_goto q276_116 ?_
            refine wq_iinc (ls' := [_, _, _, _, _, _, _, _, _]) q276_126 rfl rfl ?_
            refine wq_goto q276_129 ?_
            rw [nI_1]
            exact ih (c + 1) x y hi2 t2 _ _ _ (by omega) hS2 hxy hQ
      · have e : escS H row set c x = x := by unfold escS; rw [if_neg (fun z => c87 z.1)]
        rw [e] at hQ
        refine wq_goto q276_90 ?_
        refine wq_iinc (ls' := [_, _, _, _, _, _, _, _, _]) q276_126 rfl rfl ?_
        refine wq_goto q276_129 ?_
        rw [nI_1]
        exact ih (c + 1) x y hi2 t2 _ _ _ (by omega) hS2 hxy hQ
theorem c_rescape {set x : Int32} (hF : RF hi f lw sz n ev wi) (hw : RW n row (hi 71)) (h0 : ¬ (inB x (nI ev) = true ∧ 0 ≤ set ∧ set < 1 <<< (nI n &&& 31)) → Q (some (.int (-1))) (HP (up2 hi 58 0 0) hl f dr t))
    (h1 : ∀ v hi' t', v < ev → x = nI v → RS hi hi' → Q (some (.int (escR (heV hi f lw sz n v row) row set n 0 (-1, 8)).1)) (HP hi' hl f dr t')) : Ct G (0, 0) (d + 36) 276 [.ref 58, .int set, .int x] (HP hi hl f dr t) Q := by
  have hn := hF.2.1.1
  have hn1 := hF.2.1.2.1
  have hev := hF.2.1.2.2.1
  have hr0 : RS hi (up2 hi 58 0 0) := RS.upK (by decide) _
  have e27 : up2 hi 58 0 0 58 27 = nI ev := hF.2.2.1.2.1
  have e26 : hI (HP (up2 hi 58 0 0) hl f dr t) 58 26 = nI n := hF.2.2.1.1
  refine Ct_of (ls := [_, _, _, _, _, _, _, _, _]) m_276.1.2.2.1 (Nat.le_of_ble_eq_true rfl) rfl ?_
  refine wq_aload_n q276_0 rfl ?_
  refine wq_iconst q276_1 ?_
  refine wq_putI q276_2 rfl rfl rfl rfl ?_
  rw [hpS]
  refine wq_aload_n q276_5 rfl ?_
  refine wq_getI q276_6 rfl rfl ?_
  refine wq_if_eq q276_9 (fun c9 => ?_) (fun c9 => ?_)
  · rw [e26] at c9
    exact absurd c9 (nI_ne0 (by omega) (by omega))
  · refine wq_iload_n q276_12 rfl ?_
    refine wq_if_lt q276_13 (fun c13 => ?_) (fun c13 => ?_)
    · refine wq_iconst q276_34 ?_
      refine rI q276_35 rfl ?_
      exact h0 (fun z => absurd z.2.1 (Int32.not_le.mpr c13))
    · refine wq_iload_n q276_16 rfl ?_
      refine wq_iconst q276_17 ?_
      refine wq_aload_n q276_18 rfl ?_
      refine wq_getI q276_19 rfl rfl ?_
      refine wq_ishl q276_22 ?_
      refine wq_icmp_ge q276_23 (fun c23 => ?_) (fun c23 => ?_)
      · rw [e26] at c23
        refine wq_iconst q276_34 ?_
        refine rI q276_35 rfl ?_
        exact h0 (fun z => absurd z.2.2 (Int32.not_lt.mpr c23))
      · rw [e26] at c23
        refine wq_aload_n q276_26 rfl ?_
        refine wq_iload_n q276_27 rfl ?_
        refine cV (As := [_]) q276_28 m_210 rfl rfl rfl ⟨by decide, rfl⟩ rfl (c_risEvent ?_)
        refine wq_if_ne q276_31 (fun c31 => ?_) (fun c31 => ?_)
        · have c := i10 c31
          rw [e27] at c
          obtain ⟨v, hv, rfl⟩ := inB_N (m := ev) (by omega) c
          refine wq_iconst q276_36 ?_
          refine wq_istore_n (ls' := [_, _, _, _, _, _, _, _, _]) q276_37 rfl ?_
          refine wq_iconst q276_38 ?_
          refine wq_istore (ls' := [_, _, _, _, _, _, _, _, _]) q276_39 rfl ?_
          refine wq_iconst q276_41 ?_
          refine wq_istore (ls' := [_, _, _, _, _, _, _, _, _]) q276_42 rfl ?_
          refine c_rescape_loop (row := row) (H := heV hi f lw sz n v row) hF hw hv (fun _ => rfl) (fun c hc => ?_) n 0 (-1, 8) (-1, 0) _ t _ _ _ (by omega) hr0 (Or.inr ⟨rfl, rfl⟩) (fun hi2 t2 hS => h1 v hi2 t2 hv rfl hS)
          obtain ⟨k, hk, e⟩ := set7 (x := heV hi f lw sz n v row c &&& (set ^^^ (-1))) (fun i h1 h2 => by rw [b_and, show bt (heV hi f lw sz n v row c) i = false from hw.hr_hi hn (by omega) h2]; rfl)
          rw [e]
          exact (bc7 k hk).1
        · have c := i01 c31
          rw [e27] at c
          refine wq_iconst q276_34 ?_
          refine rI q276_35 rfl ?_
          exact h0 (fun z => by rw [z.1] at c; cases c)
theorem c_rmost_loop (hn : n ≤ 7) (h26 : hi 58 26 = nI n) {g : Nat → Int32} (hg : ∀ p, p < n → bc (hi 71 (4 * p + 2)) = g p) : ∀ (m p j : Nat), (p + m = n ∨ (m = 0 ∧ n ≤ p ∧ p ≤ 7)) → j < n → Q (some (.int (bsR g m p (nI j, g j)).1)) (HP hi hl f dr t) →
    wq G (0, 0) (d + 1) 283 18 [some (.ref 58), some (.int (nI j)), some (.int (nI p))] [] (0, 0) (HP hi hl f dr t) Q := by
  have ec : hI (HP hi hl f dr t) 58 26 = nI n := h26
  intro m
  induction m with
  | zero =>
    intro p j hm hj hQ
    refine wq_iload_n q283_18 rfl ?_
    refine wq_aload_n q283_19 rfl ?_
    refine wq_getI q283_20 rfl rfl ?_
    refine wq_icmp_ge q283_23 (fun c23 => ?_) (fun c23 => ?_)
    · refine wq_iload_n q283_67 rfl ?_
      refine rI q283_68 rfl ?_
      exact hQ
    · rw [ec, nI_leI (by omega) (by omega)] at c23
      omega
  | succ m ih =>
    intro p j hm hj hQ
    rw [bsR] at hQ
    have ep : bc (hI (HP hi hl f dr t) 71 (4 * p + 2)) = g p := hg p (by omega)
    have ej : bc (hI (HP hi hl f dr t) 71 (4 * j + 2)) = g j := hg j hj
    refine wq_iload_n q283_18 rfl ?_
    refine wq_aload_n q283_19 rfl ?_
    refine wq_getI q283_20 rfl rfl ?_
    refine wq_icmp_ge q283_23 (fun c23 => ?_) (fun c23 => ?_)
    · rw [ec, nI_leI (by omega) (by omega)] at c23
      omega
    · refine wq_aload_n q283_26 rfl ?_
      refine wq_getR q283_27 rfl rfl rfl ?_
      refine wq_iconst q283_30 ?_
      refine wq_iload_n q283_31 rfl ?_
      refine wq_imul q283_32 ?_
      refine wq_iconst q283_33 ?_
      refine wq_iadd q283_34 ?_
      refine aI q283_35 rfl (ix2 p) (by show 4 * p + 2 < 214; omega) (by first | decide | omega) ?_
      refine cS' (As := [_]) q283_36 m_295 rfl rfl rfl (c_bitCount ?_)
      refine wq_aload_n q283_39 rfl ?_
      refine wq_getR q283_40 rfl rfl rfl ?_
      refine wq_iconst q283_43 ?_
      refine wq_iload_n q283_44 rfl ?_
      refine wq_imul q283_45 ?_
      refine wq_iconst q283_46 ?_
      refine wq_iadd q283_47 ?_
      refine aI q283_48 rfl (ix2 j) (by show 4 * j + 2 < 214; omega) (by first | decide | omega) ?_
      refine cS' (As := [_]) q283_49 m_295 rfl rfl rfl (c_bitCount ?_)
      refine wq_icmp_le q283_52 (fun c52 => ?_) (fun c52 => ?_)
      · rw [ep, ej] at c52
        rw [if_neg (show ¬ (nI j, g j).2 < g p from Int32.not_lt.mpr c52)] at hQ
        refine wq_iload_n q283_59 rfl ?_
        refine wq_istore_n (ls' := [_, _, _]) q283_60 rfl ?_
        refine wq_iinc (ls' := [_, _, _]) q283_61 rfl rfl ?_
        refine wq_goto q283_64 ?_
        rw [nI_1]
        exact ih (p + 1) j (by omega) hj hQ
      · rw [ep, ej] at c52
        rw [if_pos (show (nI j, g j).2 < g p from Int32.not_le.mp c52)] at hQ
        refine wq_iload_n q283_55 rfl ?_
        refine wq_goto q283_56 ?_
        refine wq_istore_n (ls' := [_, _, _]) q283_60 rfl ?_
        refine wq_iinc (ls' := [_, _, _]) q283_61 rfl rfl ?_
        refine wq_goto q283_64 ?_
        rw [nI_1]
        exact ih (p + 1) p (by omega) (by omega) hQ
theorem bc_ge (x : Int32) : -1 < bc x := by
  unfold bc
  obtain ⟨j, hj, e⟩ := pk_andE (bc5 (bc4 (bc3 (bc2 (bc1 x))))) (m := 63) 6 (by decide)
  rw [e, Int32.lt_iff_toInt_lt, nI_toInt (by omega), show (-1 : Int32).toInt = -1 from rfl]
  omega
theorem c_rmost (hF : RF hi f lw sz n ev wi) (hk : KN n row (hi 71)) (hQ : Q (some (.int (bsR (fun p => bc (row (21 + p))) n 0 (-1, -1)).1)) (HP (up2 hi 58 0 0) hl f dr t)) : Ct G (0, 0) (d + 1) 283 [.ref 58] (HP hi hl f dr t) Q := by
  have hn := hF.2.1.1
  have hn1 := hF.2.1.2.1
  have e26 : hI (HP (up2 hi 58 0 0) hl f dr t) 58 26 = nI n := hF.2.2.1.1
  rw [show n = (n - 1) + 1 by omega, bsR, if_pos (bc_ge _)] at hQ
  refine Ct_of (ls := [_, _, _]) m_283.1.2.2.1 (Nat.le_of_ble_eq_true rfl) rfl ?_
  refine wq_aload_n q283_0 rfl ?_
  refine wq_iconst q283_1 ?_
  refine wq_putI q283_2 rfl rfl rfl rfl ?_
  rw [hpS]
  refine wq_aload_n q283_5 rfl ?_
  refine wq_getI q283_6 rfl rfl ?_
  refine wq_if_ne q283_9 (fun c9 => ?_) (fun c9 => ?_)
  · refine wq_iconst q283_14 ?_
    refine wq_istore_n (ls' := [_, _, _]) q283_15 rfl ?_
    refine wq_iconst q283_16 ?_
    refine wq_istore_n (ls' := [_, _, _]) q283_17 rfl ?_
    exact c_rmost_loop (hi := up2 hi 58 0 0) (g := fun p => bc (row (21 + p))) hn hF.2.2.1.1 (fun p hp => by rw [show up2 hi 58 0 0 71 (4 * p + 2) = row (21 + p) from hk p hp]) (n - 1) 1 0 (by omega) (by omega) hQ
  · rw [e26] at c9
    exact absurd c9 (nI_ne0 (by omega) (by omega))
end REFWAYS
