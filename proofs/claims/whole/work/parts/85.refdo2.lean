/-! THE REFERENCE: undoing, images, plans -/
section REFDO2
variable {G : ph_G} {d f dr t n r ev wi sz lg a : Nat} {hi hi' : Nat → Nat → Int32} {hl : Nat → Nat → Int64} {Q : Option Value → ph_H → Prop} {row : Nat → Int32} {lw : Option Nat}
theorem c_rundo_loop {b : Nat} (hb : b < 40) (h38 : hi 58 38 = nI b) (hQ : ∀ Z, (∀ j, j < 214 → Z j = hi 74 (214 * b + j)) → Q (some (.int (nI b))) (HP (upC hi 71 Z) hl f dr t)) : ∀ (m k : Nat) (Z : Nat → Int32), k + m = 214 → (∀ j, j < k → Z j = hi 74 (214 * b + j)) →
    wq G (0, 0) d 246 26 [some (.ref 58), some (.int (nI k))] [] (0, 0) (HP (upC hi 71 Z) hl f dr t) Q := by
  have e38 : ∀ Z, hI (HP (upC hi 71 Z) hl f dr t) 58 38 = nI b := fun _ => h38
  intro m
  induction m with
  | zero =>
    intro k Z hm hZ
    obtain rfl : k = 214 := by omega
    refine wq_iload_n q246_26 rfl ?_
    refine wq_sipush q246_27 ?_
    refine wq_icmp_ge q246_30 (fun c30 => ?_) (fun c30 => ?_)
    · refine wq_aload_n q246_60 rfl ?_
      refine wq_getI q246_61 rfl rfl ?_
      rw [e38]
      refine rI q246_64 rfl ?_
      exact hQ Z hZ
    · exact absurd (by decide) c30
  | succ m ih =>
    intro k Z hm hZ
    refine wq_iload_n q246_26 rfl ?_
    refine wq_sipush q246_27 ?_
    refine wq_icmp_ge q246_30 (fun c30 => ?_) (fun c30 => ?_)
    · rw [show (214 : Int32) = nI 214 from rfl, nI_leI (by omega) (by omega)] at c30
      omega
    · refine wq_aload_n q246_33 rfl ?_
      refine wq_getR q246_34 rfl rfl rfl ?_
      refine wq_iload_n q246_37 rfl ?_
      refine wq_aload_n q246_38 rfl ?_
      refine wq_getR q246_39 rfl rfl rfl ?_
      refine wq_sipush q246_42 ?_
      refine wq_aload_n q246_45 rfl ?_
      refine wq_getI q246_46 rfl rfl ?_
      rw [e38]
      refine wq_imul q246_49 ?_
      refine wq_iload_n q246_50 rfl ?_
      refine wq_iadd q246_51 ?_
      refine aI q246_52 rfl ((by rw [show (214 : Int32) = nI 214 from rfl, pk_mul, nI_add])) (by show 214 * b + k < 8560; omega) (by first | decide | omega) ?_
      refine sI q246_53 rfl (rfl) (by show k < 214; omega) (by first | decide | omega) rfl ?_
      refine wq_iinc (ls' := [_, _]) q246_54 rfl rfl ?_
      refine wq_goto q246_57 ?_
      rw [hpS, up2_C, upC_s, upC_C, nI_1]
      refine ih (k + 1) _ (by omega) (fun j hj => ?_)
      by_cases h : j = k
      · rw [h, vu_s]
        rfl
      · rw [vu_o _ _ h]
        exact hZ j (by omega)
/-- the latest act is undone -/
def RuP (a : Nat) (hi hi' : Nat → Nat → Int32) : Prop := (∀ b, b ≠ 58 → b ≠ 71 → hi' b = hi b) ∧ (∀ k, k ≠ 0 → k ≠ 38 → hi' 58 k = hi 58 k) ∧ hi' 58 38 = nI (a - 1) ∧ ∀ j, j < 214 → hi' 71 j = hi 74 (214 * (a - 1) + j)
theorem c_rundo (ha : a ≤ 40) (h38 : hi 58 38 = nI a) (h0 : a = 0 → Q (some (.int (-1))) (HP (up2 hi 58 0 0) hl f dr t)) (h1 : 0 < a → ∀ hi', RuP a hi hi' → Q (some (.int (nI (a - 1)))) (HP hi' hl f dr t)) : Ct G (0, 0) d 246 [.ref 58] (HP hi hl f dr t) Q := by
  have e38 : hI (HP (up2 hi 58 0 0) hl f dr t) 58 38 = nI a := h38
  refine Ct_of (ls := [_, _]) m_246.1.2.2.1 (Nat.le_of_ble_eq_true rfl) rfl ?_
  refine wq_aload_n q246_0 rfl ?_
  refine wq_iconst q246_1 ?_
  refine wq_putI q246_2 rfl rfl rfl rfl ?_
  rw [hpS]
  refine wq_aload_n q246_5 rfl ?_
  refine wq_getI q246_6 rfl rfl ?_
  refine wq_if_ne q246_9 (fun c9 => ?_) (fun c9 => ?_)
  · rw [e38, show (0 : Int32) = nI 0 from rfl, nI_eq (by omega) (by omega)] at c9
    refine wq_aload_n q246_14 rfl ?_
    refine wq_dup q246_15 rfl ?_
    refine wq_getI q246_16 rfl rfl ?_
    refine wq_iconst q246_19 ?_
    refine wq_isub q246_20 ?_
    refine wq_putI q246_21 rfl rfl rfl rfl ?_
    rw [e38, nI_m1 (by omega), hpS]
    refine wq_iconst q246_24 ?_
    refine wq_istore_n (ls' := [_, _]) q246_25 rfl ?_
    rw [← upC_self (up2 (up2 hi 58 0 0) 58 38 (nI (a - 1))) 71 rfl]
    refine c_rundo_loop (hi := up2 (up2 hi 58 0 0) 58 38 (nI (a - 1))) (b := a - 1) (by omega) rfl (fun Z hZ => h1 (by omega) _ ⟨fun b b1 b2 => ?_, fun k k1 k2 => ?_, rfl, hZ⟩) 214 0 _ (by omega) (fun j hj => by omega)
    · rw [upC_o _ _ b2, up2_o _ _ _ b1, up2_o _ _ _ b1]
    · rw [upC_o _ _ (by decide), up2_s, vu_o _ _ k2, up2_s, vu_o _ _ k1]
  · rw [e38, show (0 : Int32) = nI 0 from rfl, nI_eq (by omega) (by omega)] at c9
    refine wq_iconst q246_12 ?_
    refine rI q246_13 rfl ?_
    exact h0 c9
/-- an image is taken -/
def RiP (lg : Nat) (hi hi' : Nat → Nat → Int32) : Prop := (∀ b, b ≠ 58 → b ≠ 78 → hi' b = hi b) ∧ (∀ k, k ≠ 0 → k ≠ 47 → hi' 58 k = hi 58 k) ∧ hi' 58 47 = 1 ∧ ∀ j, j < 34 + 3 * lg → hi' 78 j = hi 71 j
theorem c_rimage (hlg : lg ≤ 60) (h33 : hi 71 33 = nI lg) (h0 : hi 58 26 = 0 → Q (some (.int (-1))) (HP (up2 hi 58 0 0) hl f dr t)) (h1 : ¬ hi 58 26 = 0 → ∀ hi', RiP lg hi hi' → Q (some (.int (hi 71 32))) (HP hi' hl f dr t)) : Ct G (0, 0) (d + 1) 289 [.ref 58] (HP hi hl f dr t) Q := by
  have e26 : hI (HP (up2 hi 58 0 0) hl f dr t) 58 26 = hi 58 26 := rfl
  refine Ct_of (ls := [_]) m_289.1.2.2.1 (Nat.le_of_ble_eq_true rfl) rfl ?_
  refine wq_aload_n q289_0 rfl ?_
  refine wq_iconst q289_1 ?_
  refine wq_putI q289_2 rfl rfl rfl rfl ?_
  rw [hpS]
  refine wq_aload_n q289_5 rfl ?_
  refine wq_getI q289_6 rfl rfl ?_
  refine wq_if_ne q289_9 (fun c9 => ?_) (fun c9 => ?_)
  · rw [e26] at c9
    refine wq_aload_n q289_14 rfl ?_
    refine wq_getR q289_15 rfl rfl rfl ?_
    refine wq_aload_n q289_18 rfl ?_
    refine wq_getR q289_19 rfl rfl rfl ?_
    refine cS' (As := [_, _]) q289_22 m_208 rfl rfl rfl (c_rcopy (Or.inr (Or.inl ⟨rfl, rfl⟩)) hlg h33 (fun Z hZ => ?_))
    refine wq_aload_n q289_25 rfl ?_
    refine wq_iconst q289_26 ?_
    refine wq_putI q289_27 rfl rfl rfl rfl ?_
    rw [hpS]
    refine wq_aload_n q289_30 rfl ?_
    refine wq_getR q289_31 rfl rfl rfl ?_
    refine wq_bipush q289_34 ?_
    refine aI q289_36 rfl ((show (32 : Int32) = nI 32 from rfl)) (by decide) (by first | decide | omega) ?_
    refine rI q289_37 rfl ?_
    refine h1 c9 _ ⟨fun b b1 b2 => ?_, fun k k1 k2 => ?_, rfl, hZ⟩
    · rw [up2_o _ _ _ b1, upC_o _ _ b2, up2_o _ _ _ b1]
    · rw [up2_s, vu_o _ _ k2, upC_o _ _ (by decide), up2_s, vu_o _ _ k1]
  · rw [e26] at c9
    refine wq_iconst q289_12 ?_
    refine rI q289_13 rfl ?_
    exact h0 c9
/-- an image comes back -/
def RbP (lg : Nat) (hi hi' : Nat → Nat → Int32) : Prop := (∀ b, b ≠ 58 → b ≠ 71 → hi' b = hi b) ∧ (∀ k, k ≠ 0 → k ≠ 38 → hi' 58 k = hi 58 k) ∧ hi' 58 38 = 0 ∧ ∀ j, j < 34 + 3 * lg → hi' 71 j = hi 78 j
theorem c_rback (h0 : hi 58 47 = 0 → Q (some (.int (-1))) (HP (up2 hi 58 0 0) hl f dr t)) (h1 : ¬ hi 58 47 = 0 → ∃ lg, lg ≤ 60 ∧ hi 78 33 = nI lg ∧ ∀ hi', RbP lg hi hi' → Q (some (.int (hi 78 32))) (HP hi' hl f dr t)) : Ct G (0, 0) (d + 1) 290 [.ref 58] (HP hi hl f dr t) Q := by
  have e47 : hI (HP (up2 hi 58 0 0) hl f dr t) 58 47 = hi 58 47 := rfl
  refine Ct_of (ls := [_]) m_290.1.2.2.1 (Nat.le_of_ble_eq_true rfl) rfl ?_
  refine wq_aload_n q290_0 rfl ?_
  refine wq_iconst q290_1 ?_
  refine wq_putI q290_2 rfl rfl rfl rfl ?_
  rw [hpS]
  refine wq_aload_n q290_5 rfl ?_
  refine wq_getI q290_6 rfl rfl ?_
  refine wq_if_ne q290_9 (fun c9 => ?_) (fun c9 => ?_)
  · rw [e47] at c9
    obtain ⟨lg, hlg, h33, h1⟩ := h1 c9
    refine wq_aload_n q290_14 rfl ?_
    refine wq_getR q290_15 rfl rfl rfl ?_
    refine wq_aload_n q290_18 rfl ?_
    refine wq_getR q290_19 rfl rfl rfl ?_
    refine cS' (As := [_, _]) q290_22 m_208 rfl rfl rfl (c_rcopy (Or.inr (Or.inr ⟨rfl, rfl⟩)) hlg h33 (fun Z hZ => ?_))
    refine wq_aload_n q290_25 rfl ?_
    refine wq_iconst q290_26 ?_
    refine wq_putI q290_27 rfl rfl rfl rfl ?_
    rw [hpS]
    have e32 : hI (HP (up2 (upC (up2 hi 58 0 0) 71 Z) 58 38 0) hl f dr t) 71 32 = hi 78 32 := hZ 32 (by omega)
    refine wq_aload_n q290_30 rfl ?_
    refine wq_getR q290_31 rfl rfl rfl ?_
    refine wq_bipush q290_34 ?_
    refine aI q290_36 rfl ((show (32 : Int32) = nI 32 from rfl)) (by decide) (by first | decide | omega) ?_
    rw [e32]
    refine rI q290_37 rfl ?_
    refine h1 _ ⟨fun b b1 b2 => ?_, fun k k1 k2 => ?_, rfl, hZ⟩
    · rw [up2_o _ _ _ b1, upC_o _ _ b2, up2_o _ _ _ b1]
    · rw [up2_s, vu_o _ _ k2, upC_o _ _ (by decide), up2_s, vu_o _ _ k1]
  · rw [e47] at c9
    refine wq_iconst q290_12 ?_
    refine rI q290_13 rfl ?_
    exact h0 c9
/-- a plan of the reference -/
def PlR (hi : Nat → Nat → Int32) (k st : Nat) (P : Nat → Int32) : Prop := k < 4 ∧ st ≤ 16 ∧ hi 70 k = nI st ∧ (∀ j, j < st * 3 → hi 69 (48 * k + j) = P j) ∧ PLok st P
theorem PlR.mv {k st : Nat} {P : Nat → Int32} (h : PlR hi k st P) (h70 : ∀ j, j < 4 → hi' 70 j = hi 70 j) (h69 : ∀ j, j < 192 → hi' 69 j = hi 69 j) : PlR hi' k st P :=
  ⟨h.1, h.2.1, (h70 k h.1).trans h.2.2.1, fun j hj => by rw [h69 _ (by have := h.1; have := h.2.1; omega)]; exact h.2.2.2.1 j hj, h.2.2.2.2⟩
theorem q_ix {k i : Nat} : (3 : Int32) * (16 * nI k + nI i) = nI (48 * k + i * 3) := by
  rw [show (16 : Int32) = nI 16 from rfl, pk_mul, nI_add, show (3 : Int32) = nI 3 from rfl, pk_mul]
  congr 1
  omega
theorem c_rrun_loop {k st : Nat} {w : Int32} {P : Nat → Int32} (hF : RF hi f lw sz n ev wi) (hP : PlR hi k st P)
    (K : ∀ (x : Nat × (Nat → Int32)) (hi2 : Nat → Nat → Int32) (t2 : Nat), RS hi hi2 → RW n x.2 (hi2 72) → x.1 ≤ st → x = rnR hi f lw sz n ev wi P st 0 row → wq G (0, 0) (d + 38) 252 98 [some (.ref 58), some (.int (nI k)), some (.int w), some (.int (nI x.1))] [] (0, 0) (HP hi2 hl f dr t2) Q) :
    ∀ (m i : Nat) (row' : Nat → Int32) (hi' : Nat → Nat → Int32) (t' lg : Nat), i + m = st → RS hi hi' → RW n row' (hi' 72) → KN n row' (hi' 72) → lg ≤ 60 → hi' 72 33 = nI lg → rnR hi f lw sz n ev wi P st 0 row = rnR hi f lw sz n ev wi P m i row' →
    wq G (0, 0) (d + 38) 252 47 [some (.ref 58), some (.int (nI k)), some (.int w), some (.int (nI i))] [] (0, 0) (HP hi' hl f dr t') Q := by
  have hk4 := hP.1
  have hst := hP.2.1
  intro m
  induction m with
  | zero =>
    intro i row' hi' t' lg hm hS hw hk hlg h33 hb
    obtain rfl : i = st := by omega
    have hP' := hP.mv hS.2.2.2 hS.2.2.1
    have es : hI (HP hi' hl f dr t') 70 k = nI i := hP'.2.2.1
    refine wq_iload_n q252_47 rfl ?_
    refine wq_aload_n q252_48 rfl ?_
    refine wq_getR q252_49 rfl rfl rfl ?_
    refine wq_iload_n q252_52 rfl ?_
    refine aI q252_53 rfl (rfl) (by show k < 5; omega) (by first | decide | omega) ?_
    rw [es]
    refine wq_icmp_ge q252_54 (fun c54 => ?_) (fun c54 => ?_)
    · exact K (i, row') hi' t' hS hw (Nat.le_refl _) (by rw [hb]; rfl)
    · exact absurd (nI_le (Nat.le_refl _) (by omega)) c54
  | succ m ih =>
    intro i row' hi' t' lg hm hS hw hk hlg h33 hb
    have hP' := hP.mv hS.2.2.2 hS.2.2.1
    have es : hI (HP hi' hl f dr t') 70 k = nI st := hP'.2.2.1
    have hF' := hS.mv hF
    have hfl := hS.fl hF
    have p0 : hi' 69 (48 * k + i * 3) = P (i * 3 + 0) := hP'.2.2.2.1 (i * 3 + 0) (by omega)
    have p1 : hi' 69 (48 * k + i * 3 + 1) = P (i * 3 + 1) := hP'.2.2.2.1 (i * 3 + 1) (by omega)
    have p2 : hi' 69 (48 * k + i * 3 + 2) = P (i * 3 + 2) := hP'.2.2.2.1 (i * 3 + 2) (by omega)
    have hkd := hP.2.2.2.2 i (by omega)
    rw [rnR] at hb
    refine wq_iload_n q252_47 rfl ?_
    refine wq_aload_n q252_48 rfl ?_
    refine wq_getR q252_49 rfl rfl rfl ?_
    refine wq_iload_n q252_52 rfl ?_
    refine aI q252_53 rfl (rfl) (by show k < 5; omega) (by first | decide | omega) ?_
    rw [es]
    refine wq_icmp_ge q252_54 (fun c54 => ?_) (fun c54 => ?_)
    · rw [nI_leI (by omega) (by omega)] at c54
      omega
    · refine wq_aload_n q252_57 rfl ?_
      refine wq_aload_n q252_58 rfl ?_
      refine wq_getR q252_59 rfl rfl rfl ?_
      refine wq_iconst q252_62 ?_
      refine wq_bipush q252_63 ?_
      refine wq_iload_n q252_65 rfl ?_
      refine wq_imul q252_66 ?_
      refine wq_iload_n q252_67 rfl ?_
      refine wq_iadd q252_68 ?_
      refine wq_imul q252_69 ?_
      rw [q_ix]
      refine cV (As := [_, _]) q252_70 m_250 rfl rfl rfl ⟨by decide, rfl⟩ rfl (c_rcanStep (d := d + 35) hF' (Or.inr rfl) hw (by omega) p0 p1 p2 ?_)
      refine wq_if_eq q252_73 (fun c73 => ?_) (fun c73 => ?_)
      · have c := i01 c73
        rw [canB_congr hfl] at c
        rw [if_neg (by rw [c]; decide)] at hb
        exact K (i, row') hi' t' hS hw (by show i ≤ st; omega) hb.symm
      · have c := i10 c73
        have c' := c
        rw [canB_congr hfl] at c'
        rw [if_pos c'] at hb
        refine wq_aload_n q252_76 rfl ?_
        refine wq_aload_n q252_77 rfl ?_
        refine wq_getR q252_78 rfl rfl rfl ?_
        refine wq_iconst q252_81 ?_
        refine wq_bipush q252_82 ?_
        refine wq_iload_n q252_84 rfl ?_
        refine wq_imul q252_85 ?_
        refine wq_iload_n q252_86 rfl ?_
        refine wq_iadd q252_87 ?_
        refine wq_imul q252_88 ?_
        rw [q_ix]
        refine cV (As := [_, _]) q252_89 m_251 rfl rfl rfl ⟨by decide, rfl⟩ rfl (c_rsteps (d := d) hF' (Or.inr rfl) hw hk hlg h33 (by omega) p0 p1 p2 hkd c (fun hi2 t2 hN hw2 hk2 hno hyes => ?_))
        rw [chg_congr hfl] at hw2 hk2
        refine wq_iinc (ls' := [_, _, _, _]) q252_92 rfl rfl ?_
        refine wq_goto q252_95 ?_
        rw [nI_1]
        by_cases hk4 : P (i * 3 + 0) = 4
        · exact ih (i + 1) _ hi2 t2 (min (lg + 1) 60) (by omega) (hN.rs' hS) hw2 hk2 (by omega) (hyes hk4).2.2.2.2.2.2.1 hb
        · exact ih (i + 1) _ hi2 t2 lg (by omega) (hN.rs' hS) hw2 hk2 hlg ((hno hk4 33 (Nat.le_refl _)).trans h33) hb
theorem c_rrun {x w : Int32} {pc' : Nat} (hF : RF hi f lw sz n ev wi) (hw : RW n row (hi 71)) (hk : KN n row (hi 71)) (hlg : lg ≤ 60) (h33 : hi 71 33 = nI lg) (hpc : hi 58 30 = nI pc') (hpc4 : pc' ≤ 4) (hpl : ∀ k, k < pc' → ∃ st P, PlR hi k st P)
    (h0 : ¬ (inB x (nI pc') = true ∧ 0 ≤ w ∧ w ≤ 1) → Q (some (.int (-1000000))) (HP (up2 hi 58 0 0) hl f dr t))
    (h1 : ∀ k st P x' hi2 t2, k < pc' → x = nI k → PlR hi k st P → 0 ≤ w → w ≤ 1 → RS hi hi2 → x' = rnR hi f lw sz n ev wi P st 0 row → Q (some (.int (if w = 1 then x'.2 (7 + sOf x'.2 wi) else if x'.1 = st then -1 else nI x'.1))) (HP hi2 hl f dr t2)) :
    Ct G (0, 0) (d + 38) 252 [.ref 58, .int x, .int w] (HP hi hl f dr t) Q := by
  have hn := hF.2.1.1
  have hn1 := hF.2.1.2.1
  have hwi := hF.2.1.2.2.2.1
  have hr0 : RS hi (up2 hi 58 0 0) := RS.upK (by decide) _
  have e30 : up2 hi 58 0 0 58 30 = nI pc' := hpc
  have e26 : hI (HP (up2 hi 58 0 0) hl f dr t) 58 26 = nI n := hF.2.2.1.1
  refine Ct_of (ls := [_, _, _, _]) m_252.1.2.2.1 (Nat.le_of_ble_eq_true rfl) rfl ?_
  refine wq_aload_n q252_0 rfl ?_
  refine wq_iconst q252_1 ?_
  refine wq_putI q252_2 rfl rfl rfl rfl ?_
  rw [hpS]
  refine wq_aload_n q252_5 rfl ?_
  refine wq_iload_n q252_6 rfl ?_
  refine cV (As := [_]) q252_7 m_248 rfl rfl rfl ⟨by decide, rfl⟩ rfl (c_risPlan ?_)
  refine wq_if_eq q252_10 (fun c10 => ?_) (fun c10 => ?_)
  · have c := i01 c10
    rw [e30] at c
    refine wq_ldc_w q252_30 ?_
    refine rI q252_33 rfl ?_
    exact h0 (fun z => by rw [z.1] at c; cases c)
  · have c := i10 c10
    rw [e30] at c
    obtain ⟨k, hk', rfl⟩ := inB_N (m := pc') (by omega) c
    obtain ⟨st, P, hP⟩ := hpl k hk'
    have hst := hP.2.1
    refine wq_aload_n q252_13 rfl ?_
    refine wq_getI q252_14 rfl rfl ?_
    refine wq_if_eq q252_17 (fun c17 => ?_) (fun c17 => ?_)
    · rw [e26] at c17
      exact absurd c17 (nI_ne0 (by omega) (by omega))
    · refine wq_iload_n q252_20 rfl ?_
      refine wq_i2l q252_21 ?_
      refine wq_lconst q252_22 ?_
      refine wq_lconst q252_23 ?_
      refine cS' (As := [_, _, _]) q252_24 m_170 rfl rfl rfl (c_isIn ?_)
      refine wq_if_ne q252_27 (fun c27 => ?_) (fun c27 => ?_)
      · have cw := iiB_01.mp (i10 c27)
        refine wq_aload_n q252_34 rfl ?_
        refine wq_getR q252_35 rfl rfl rfl ?_
        refine wq_aload_n q252_38 rfl ?_
        refine wq_getR q252_39 rfl rfl rfl ?_
        refine cS' (As := [_, _]) q252_42 m_208 rfl rfl rfl (c_rcopy (Or.inl ⟨rfl, rfl⟩) hlg h33 (fun Z hZ => ?_))
        have hS1 : RS hi (upC (up2 hi 58 0 0) 72 Z) := hr0.tr (rs_cp Z)
        refine wq_iconst q252_45 ?_
        refine wq_istore_n (ls' := [_, _, _, _]) q252_46 rfl ?_
        refine c_rrun_loop (row := row) hF hP (fun x' hi2 t2 hS hwx hxs hx => ?_) st 0 row _ t lg (by omega) hS1 (by rw [upC_s]; exact hw.ext hn (fun j hj => hZ j (by omega))) (by rw [upC_s]; exact hk.ext hn (fun j hj => hZ j (by omega))) hlg (by rw [upC_s, hZ 33 (by omega)]; exact h33) rfl
        have hq := h1 k st P x' hi2 t2 hk' rfl hP cw.1 cw.2 hS hx
        have hF2 := hS.mv hF
        obtain ⟨s1, s2, s3⟩ := hwx.s hn hwi
        refine wq_iload_n q252_98 rfl ?_
        refine wq_iconst q252_99 ?_
        refine wq_icmp_ne q252_100 (fun c100 => ?_) (fun c100 => ?_)
        · rw [if_neg c100] at hq
          have es : hI (HP hi2 hl f dr t2) 70 k = nI st := (hP.mv hS.2.2.2 hS.2.2.1).2.2.1
          have hk4 := hP.1
          refine wq_iload_n q252_121 rfl ?_
          refine wq_aload_n q252_122 rfl ?_
          refine wq_getR q252_123 rfl rfl rfl ?_
          refine wq_iload_n q252_126 rfl ?_
          refine aI q252_127 rfl (rfl) (by show k < 5; omega) (by first | decide | omega) ?_
          rw [es]
          refine wq_icmp_ne q252_128 (fun c128 => ?_) (fun c128 => ?_)
          · rw [nI_eq (by omega) (by omega)] at c128
            rw [if_neg c128] at hq
            refine wq_iload_n q252_135 rfl ?_
            refine rI q252_136 rfl ?_
            exact hq
          · rw [nI_eq (by omega) (by omega)] at c128
            rw [if_pos c128] at hq
            refine wq_iconst q252_131 ?_
            refine wq_goto q252_132 ?_
            refine rI q252_136 rfl ?_
            exact hq
        · rw [if_pos c100] at hq
          have eb : hI (HP hi2 hl f dr t2) 72 (4 * sOf x'.2 wi + 1) = x'.2 (7 + sOf x'.2 wi) := hwx.2.2.1 _ s1
          refine wq_aload_n q252_103 rfl ?_
          refine wq_getR q252_104 rfl rfl rfl ?_
          refine wq_iconst q252_107 ?_
          refine wq_aload_n q252_108 rfl ?_
          refine wq_aload_n q252_109 rfl ?_
          refine wq_getR q252_110 rfl rfl rfl ?_
          refine cV (As := [_]) q252_113 m_213 rfl rfl rfl ⟨by decide, rfl⟩ rfl (c_rteller (Or.inr rfl) hn hF2.2.2.1.1 ((hF2.2.2.1.2.2.1 0 (by decide)).trans hF2.2.1.2.2.2.2.2.2) hwx hwi ?_)
          rw [s2]
          refine wq_imul q252_116 ?_
          refine wq_iconst q252_117 ?_
          refine wq_iadd q252_118 ?_
          refine aI q252_119 rfl (ix1 _) (by show 4 * sOf x'.2 wi + 1 < 214; omega) (by first | decide | omega) ?_
          rw [eb]
          refine rI q252_120 rfl ?_
          exact hq
      · have cw := i01 c27
        refine wq_ldc_w q252_30 ?_
        refine rI q252_33 rfl ?_
        exact h0 (fun z => by rw [iiB_01.mpr z.2] at cw; cases cw)
/-- a plan is performed by the reference -/
def RPf (f : Nat) (lw : Option Nat) (sz n ev wi : Nat) (P : Nat → Int32) : Nat → Nat → (Nat → Int32) → (Nat → Nat → Int32) → Nat → (Nat → Nat → Int32) → Prop
  | 0, i, _, hi, i', hi' => i' = i ∧ hi' = hi
  | m + 1, i, row, hi, i', hi' => (canB hi f row n (P (i * 3 + 0)) (P (i * 3 + 1)) (P (i * 3 + 2)) = false ∧ i' = i ∧ hi' = hi) ∨
    (canB hi f row n (P (i * 3 + 0)) (P (i * 3 + 1)) (P (i * 3 + 2)) = true ∧ ∃ hi1 a, hi 58 38 = nI a ∧ a ≤ 40 ∧ RStep n a (if P (i * 3 + 0) = 4 then row else chg hi f lw sz n ev (sOf row) wi row (P (i * 3 + 0)) (P (i * 3 + 1)) (P (i * 3 + 2))) (decide (P (i * 3 + 0) = 4)) hi hi1 ∧ RPf f lw sz n ev wi P m (i + 1) (chg hi f lw sz n ev (sOf row) wi row (P (i * 3 + 0)) (P (i * 3 + 1)) (P (i * 3 + 2))) hi1 i' hi')
theorem RaF.pl {k st : Nat} {P : Nat → Int32} (h : RaF hi hi') (hP : PlR hi k st P) : PlR hi' k st P := hP.mv (fun j _ => by rw [h.1 70 (by decide) (by decide) (by decide) (by decide) (by decide)]) (fun j _ => by rw [h.1 69 (by decide) (by decide) (by decide) (by decide) (by decide)])
theorem c_rperf_loop {k st : Nat} {P : Nat → Int32} :
    ∀ (m i : Nat) (row : Nat → Int32) (hi : Nat → Nat → Int32) (t a lg : Nat), i + m = st → RF hi f lw sz n ev wi → PlR hi k st P → RW n row (hi 71) → KN n row (hi 71) → a ≤ 40 → hi 58 38 = nI a → lg ≤ 60 → hi 71 33 = nI lg → (∀ i' hi' t', RPf f lw sz n ev wi P m i row hi i' hi' → Q (some (.int (nI i'))) (HP hi' hl f dr t')) →
    wq G (0, 0) (d + 38) 253 24 [some (.ref 58), some (.int (nI k)), some (.int (nI i))] [] (0, 0) (HP hi hl f dr t) Q := by
  intro m
  induction m with
  | zero =>
    intro i row hi t a lg hm hF hP hw hk ha h38 hlg h33 hQ
    obtain rfl : i = st := by omega
    have hst := hP.2.1
    have hk4 := hP.1
    have es : hI (HP hi hl f dr t) 70 k = nI i := hP.2.2.1
    refine wq_iload_n q253_24 rfl ?_
    refine wq_aload_n q253_25 rfl ?_
    refine wq_getR q253_26 rfl rfl rfl ?_
    refine wq_iload_n q253_29 rfl ?_
    refine aI q253_30 rfl (rfl) (by show k < 5; omega) (by first | decide | omega) ?_
    rw [es]
    refine wq_icmp_ge q253_31 (fun c31 => ?_) (fun c31 => ?_)
    · refine wq_iload_n q253_79 rfl ?_
      refine rI q253_80 rfl ?_
      exact hQ i hi t ⟨rfl, rfl⟩
    · exact absurd (nI_le (Nat.le_refl _) (by omega)) c31
  | succ m ih =>
    intro i row hi t a lg hm hF hP hw hk ha h38 hlg h33 hQ
    have hst := hP.2.1
    have hk4 := hP.1
    have es : hI (HP hi hl f dr t) 70 k = nI st := hP.2.2.1
    have p0 : hi 69 (48 * k + i * 3) = P (i * 3 + 0) := hP.2.2.2.1 (i * 3 + 0) (by omega)
    have p1 : hi 69 (48 * k + i * 3 + 1) = P (i * 3 + 1) := hP.2.2.2.1 (i * 3 + 1) (by omega)
    have p2 : hi 69 (48 * k + i * 3 + 2) = P (i * 3 + 2) := hP.2.2.2.1 (i * 3 + 2) (by omega)
    have hkd := hP.2.2.2.2 i (by omega)
    refine wq_iload_n q253_24 rfl ?_
    refine wq_aload_n q253_25 rfl ?_
    refine wq_getR q253_26 rfl rfl rfl ?_
    refine wq_iload_n q253_29 rfl ?_
    refine aI q253_30 rfl (rfl) (by show k < 5; omega) (by first | decide | omega) ?_
    rw [es]
    refine wq_icmp_ge q253_31 (fun c31 => ?_) (fun c31 => ?_)
    · rw [nI_leI (by omega) (by omega)] at c31
      omega
    · refine wq_aload_n q253_34 rfl ?_
      refine wq_aload_n q253_35 rfl ?_
      refine wq_getR q253_36 rfl rfl rfl ?_
      refine wq_iconst q253_39 ?_
      refine wq_bipush q253_40 ?_
      refine wq_iload_n q253_42 rfl ?_
      refine wq_imul q253_43 ?_
      refine wq_iload_n q253_44 rfl ?_
      refine wq_iadd q253_45 ?_
      refine wq_imul q253_46 ?_
      rw [q_ix]
      refine cV (As := [_, _]) q253_47 m_250 rfl rfl rfl ⟨by decide, rfl⟩ rfl (c_rcanStep (d := d + 35) hF (Or.inl rfl) hw (by omega) p0 p1 p2 ?_)
      refine wq_if_eq q253_50 (fun c50 => ?_) (fun c50 => ?_)
      · have c := i01 c50
        refine wq_iload_n q253_79 rfl ?_
        refine rI q253_80 rfl ?_
        exact hQ i hi t (Or.inl ⟨c, rfl, rfl⟩)
      · have c := i10 c50
        refine wq_aload_n q253_53 rfl ?_
        refine cV (As := []) q253_54 m_228 rfl rfl rfl ⟨by decide, rfl⟩ rfl (c_remember ha h38 (fun U' hU => ?_))
        have hra : RaF hi (upC (up2 hi 58 38 (nI (min (a + 1) 40))) 74 U') := ra_rem _ U'
        have c' := c
        rw [← canB_congr (hra.fl hF)] at c'
        refine wq_aload_n q253_57 rfl ?_
        refine wq_aload_n q253_58 rfl ?_
        refine wq_getR q253_59 rfl rfl rfl ?_
        refine wq_iconst q253_62 ?_
        refine wq_bipush q253_63 ?_
        refine wq_iload_n q253_65 rfl ?_
        refine wq_imul q253_66 ?_
        refine wq_iload_n q253_67 rfl ?_
        refine wq_iadd q253_68 ?_
        refine wq_imul q253_69 ?_
        rw [q_ix]
        refine cV (As := [_, _]) q253_70 m_251 rfl rfl rfl ⟨by decide, rfl⟩ rfl (c_rsteps (d := d) (hra.mv hF) (Or.inl rfl) hw hk hlg h33 (by omega) p0 p1 p2 hkd c' (fun hi2 t2 hN hw2 hk2 hno hyes => ?_))
        rw [chg_congr (hra.fl hF)] at hw2 hk2
        have hrap : RaP a hi hi2 := RaP.of RaF.rf rfl rfl hU hN
        refine wq_iinc (ls' := [_, _, _]) q253_73 rfl rfl ?_
        refine wq_goto q253_76 ?_
        rw [nI_1]
        by_cases hk4 : P (i * 3 + 0) = 4
        · have hst : RStep n a (if P (i * 3 + 0) = 4 then row else chg hi f lw sz n ev (sOf row) wi row (P (i * 3 + 0)) (P (i * 3 + 1)) (P (i * 3 + 2))) (decide (P (i * 3 + 0) = 4)) hi hi2 := by
            rw [if_pos hk4, decide_eq_true hk4]
            exact ⟨hrap, fun z => absurd z (by decide), fun _ => ⟨hi 71, lg, hw, hk, fun _ _ => rfl, h33, hlg, hyes hk4⟩⟩
          exact ih (i + 1) _ hi2 t2 (min (a + 1) 40) (min (lg + 1) 60) (by omega) (hrap.1.mv hF) (hrap.1.pl hP) hw2 hk2 (by omega) hrap.2.1 (by omega) (hyes hk4).2.2.2.2.2.2.1 (fun i' hi' t' hh => hQ i' hi' t' (Or.inr ⟨c, hi2, a, h38, ha, hst, hh⟩))
        · have hst : RStep n a (if P (i * 3 + 0) = 4 then row else chg hi f lw sz n ev (sOf row) wi row (P (i * 3 + 0)) (P (i * 3 + 1)) (P (i * 3 + 2))) (decide (P (i * 3 + 0) = 4)) hi hi2 := by
            rw [if_neg hk4, decide_eq_false hk4]
            exact ⟨hrap, fun _ => ⟨hw2, hk2, hno hk4⟩, fun z => absurd z (by decide)⟩
          exact ih (i + 1) _ hi2 t2 (min (a + 1) 40) lg (by omega) (hrap.1.mv hF) (hrap.1.pl hP) hw2 hk2 (by omega) hrap.2.1 hlg ((hno hk4 33 (Nat.le_refl _)).trans h33) (fun i' hi' t' hh => hQ i' hi' t' (Or.inr ⟨c, hi2, a, h38, ha, hst, hh⟩))
theorem c_rperform {x : Int32} {pc' : Nat} (hF : RF hi f lw sz n ev wi) (hw : RW n row (hi 71)) (hk : KN n row (hi 71)) (ha : a ≤ 40) (h38 : hi 58 38 = nI a) (hlg : lg ≤ 60) (h33 : hi 71 33 = nI lg) (hpc : hi 58 30 = nI pc') (hpc4 : pc' ≤ 4) (hpl : ∀ k, k < pc' → ∃ st P, PlR hi k st P)
    (h0 : inB x (nI pc') = false → Q (some (.int (-1))) (HP (up2 hi 58 0 0) hl f dr t))
    (h1 : ∀ k st P i' hi' t', k < pc' → x = nI k → PlR hi k st P → RPf f lw sz n ev wi P st 0 row (up2 hi 58 0 0) i' hi' → Q (some (.int (nI i'))) (HP hi' hl f dr t')) :
    Ct G (0, 0) (d + 38) 253 [.ref 58, .int x] (HP hi hl f dr t) Q := by
  have hn := hF.2.1.1
  have hn1 := hF.2.1.2.1
  have e30 : up2 hi 58 0 0 58 30 = nI pc' := hpc
  have e26 : hI (HP (up2 hi 58 0 0) hl f dr t) 58 26 = nI n := hF.2.2.1.1
  refine Ct_of (ls := [_, _, _]) m_253.1.2.2.1 (Nat.le_of_ble_eq_true rfl) rfl ?_
  refine wq_aload_n q253_0 rfl ?_
  refine wq_iconst q253_1 ?_
  refine wq_putI q253_2 rfl rfl rfl rfl ?_
  rw [hpS]
  refine wq_aload_n q253_5 rfl ?_
  refine wq_iload_n q253_6 rfl ?_
  refine cV (As := [_]) q253_7 m_248 rfl rfl rfl ⟨by decide, rfl⟩ rfl (c_risPlan ?_)
  refine wq_if_eq q253_10 (fun c10 => ?_) (fun c10 => ?_)
  · have c := i01 c10
    rw [e30] at c
    refine wq_iconst q253_20 ?_
    refine rI q253_21 rfl ?_
    exact h0 c
  · have c := i10 c10
    rw [e30] at c
    obtain ⟨k, hk', rfl⟩ := inB_N (m := pc') (by omega) c
    obtain ⟨st, P, hP⟩ := hpl k hk'
    refine wq_aload_n q253_13 rfl ?_
    refine wq_getI q253_14 rfl rfl ?_
    refine wq_if_ne q253_17 (fun c17 => ?_) (fun c17 => ?_)
    · refine wq_iconst q253_22 ?_
      refine wq_istore_n (ls' := [_, _, _]) q253_23 rfl ?_
      exact c_rperf_loop st 0 row _ t a lg (by omega) ((ra_thrown 0).mv hF) ((ra_thrown 0).pl hP) hw hk ha h38 hlg h33 (fun i' hi' t' hh => h1 k st P i' hi' t' hk' rfl hP hh)
    · rw [e26] at c17
      exact absurd c17 (nI_ne0 (by omega) (by omega))
end REFDO2
