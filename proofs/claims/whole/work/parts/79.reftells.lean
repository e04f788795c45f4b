/-! THE REFERENCE tells all that is seen -/
theorem or_z (x : Int32) : x ||| 0 = x := b_ext (fun i _ => by rw [b_or, b_0, Bool.or_false])
theorem or_as (x y z : Int32) : x ||| y ||| z = x ||| (y ||| z) := b_ext (fun i _ => by rw [b_or, b_or, b_or, b_or, Bool.or_assoc])
theorem or_cm (x y : Int32) : x ||| y = y ||| x := b_ext (fun i _ => by rw [b_or, b_or, Bool.or_comm])
theorem or_sw (x y z : Int32) : x ||| y ||| z = x ||| z ||| y := by rw [or_as, or_cm y z, or_as]
/-- what the teller leaves out, in both -/
theorem lv_eq {hi : Nat → Nat → Int32} {f n ev te v : Nat} (hc4 : hi f 4 = nI ev) (hev : ev ≤ 6) (hv : v < ev) : lvO hi f te = nI v ↔ hi (f + 2) (te * 5 + 3) = nI v := by
  unfold lvO
  rw [hc4]
  constructor
  · intro h
    split at h
    · exact h
    · exact absurd h.symm (nI_nm1 (by omega))
  · intro h
    rw [h, if_pos (nI_lt hv (by omega))]
section REFTELLS
variable {G : ph_G} {d f dr t n r ev wi sz : Nat} {hi hi' : Nat → Nat → Int32} {hl : Nat → Nat → Int64} {Q : Option Value → ph_H → Prop} {row : Nat → Int32} {lw : Option Nat}
/-- what is known of itself -/
theorem c_rbase {te : Nat} {W : Nat → Int32} {x4 x5 x6 : Option Value} (hr : Wok r) (hn : n ≤ 7) (h26 : hi 58 26 = nI n) (hte : te < 7)
    (K : ∀ Z x3, (∀ p, p < n → Z (4 * p + 2) = W (4 * p + 2) ||| (W 28 &&& (if p = te then W 28 else W (4 * p + 3)))) → (∀ j, (28 ≤ j ∨ ¬ j % 4 = 2) → Z j = W j) → wq G (0, 0) (d + 36) 220 56 [some (.ref 58), some (.ref r), some (.int (nI te)), x3, x4, x5, x6] [] (0, 0) (HP (upC hi r Z) hl f dr t) Q) :
    ∀ (m p : Nat) (Z : Nat → Int32), p + m = n → (∀ q, q < p → Z (4 * q + 2) = W (4 * q + 2) ||| (W 28 &&& (if q = te then W 28 else W (4 * q + 3)))) → (∀ j, (28 ≤ j ∨ ¬ j % 4 = 2 ∨ 4 * p ≤ j) → Z j = W j) →
    wq G (0, 0) (d + 36) 220 8 [some (.ref 58), some (.ref r), some (.int (nI te)), some (.int (nI p)), x4, x5, x6] [] (0, 0) (HP (upC hi r Z) hl f dr t) Q := by
  have h58 := (hr.sh hi hl f dr t).2.1
  have ec : ∀ Z, hI (HP (upC hi r Z) hl f dr t) 58 26 = nI n := fun Z => by show upC hi r Z 58 26 = _; rw [upC_o _ _ (Ne.symm h58)]; exact h26
  have eZ : ∀ Z j, hI (HP (upC hi r Z) hl f dr t) r j = Z j := fun Z j => by show upC hi r Z r j = _; rw [upC_s]
  intro m
  induction m with
  | zero =>
    intro p Z hm h1 h2
    obtain rfl : p = n := by omega
    refine wq_iload_n q220_8 rfl ?_
    refine wq_aload_n q220_9 rfl ?_
    refine wq_getI q220_10 rfl rfl ?_
    refine wq_icmp_ge q220_13 (fun c13 => ?_) (fun c13 => ?_)
    · exact K Z _ h1 (fun j hj => h2 j (by omega))
    · rw [ec] at c13
      exact absurd (nI_le (Nat.le_refl _) (by omega)) c13
  | succ m ih =>
    intro p Z hm h1 h2
    obtain ⟨hs, -⟩ := hr.sh (upC hi r Z) hl f dr t
    have fin : ∀ y : Int32, y = (if p = te then W 28 else W (4 * p + 3)) → wq G (0, 0) (d + 36) 220 47 [some (.ref 58), some (.ref r), some (.int (nI te)), some (.int (nI p)), x4, x5, x6] [.int y, .int (W 28), .int (W (4 * p + 2)), .int (4 * nI p + 2), .ref r] (0, 0) (HP (upC hi r Z) hl f dr t) Q := by
      intro y hy
      subst hy
      refine wq_iand q220_47 ?_
      refine wq_ior q220_48 ?_
      refine sI q220_49 (by first | exact hs | rfl) (ix2 p) (by show 4 * p + 2 < 214; omega) (by first | decide | omega) (by first | exact hs | rfl) ?_
      refine wq_iinc (ls' := [_, _, _, _, _, _, _]) q220_50 rfl rfl ?_
      refine wq_goto q220_53 ?_
      rw [hpS, up2_C, upC_s, upC_C, nI_1]
      refine ih (p + 1) _ (by omega) (fun q hq => ?_) (fun j hj => ?_)
      · by_cases z : q = p
        · rw [z, vu_s]
        · rw [vu_o _ _ (by omega)]
          exact h1 q (by omega)
      · rw [vu_o _ _ (by omega)]
        exact h2 j (by omega)
    refine wq_iload_n q220_8 rfl ?_
    refine wq_aload_n q220_9 rfl ?_
    refine wq_getI q220_10 rfl rfl ?_
    refine wq_icmp_ge q220_13 (fun c13 => ?_) (fun c13 => ?_)
    · rw [ec, nI_leI (by omega) (by omega)] at c13
      omega
    · refine wq_aload_n q220_16 rfl ?_
      refine wq_iconst q220_17 ?_
      refine wq_iload_n q220_18 rfl ?_
      refine wq_imul q220_19 ?_
      refine wq_iconst q220_20 ?_
      refine wq_iadd q220_21 ?_
      refine wq_dup2 q220_22 rfl rfl ?_
      refine aI q220_23 (by first | exact hs | rfl) (ix2 p) (by show 4 * p + 2 < 214; omega) (by first | decide | omega) ?_
      refine wq_aload_n q220_24 rfl ?_
      refine wq_bipush q220_25 ?_
      refine aI q220_27 (by first | exact hs | rfl) ((show (28 : Int32) = nI 28 from rfl)) (by decide) (by first | decide | omega) ?_
      rw [eZ, eZ, h2 28 (Or.inl (by decide)), h2 (4 * p + 2) (by omega)]
      refine wq_iload_n q220_28 rfl ?_
      refine wq_iload_n q220_29 rfl ?_
      refine wq_icmp_ne q220_30 (fun c30 => ?_) (fun c30 => ?_)
      · rw [nI_eq (by omega) (by omega)] at c30
        refine wq_aload_n q220_40 rfl ?_
        refine wq_iconst q220_41 ?_
        refine wq_iload_n q220_42 rfl ?_
        refine wq_imul q220_43 ?_
        refine wq_iconst q220_44 ?_
        refine wq_iadd q220_45 ?_
        refine aI q220_46 (by first | exact hs | rfl) (ix3 p) (by show 4 * p + 3 < 214; omega) (by first | decide | omega) ?_
        rw [eZ, h2 (4 * p + 3) (by omega)]
        exact fin _ (by rw [if_neg c30])
      · rw [nI_eq (by omega) (by omega)] at c30
        refine wq_aload_n q220_33 rfl ?_
        refine wq_bipush q220_34 ?_
        refine aI q220_36 (by first | exact hs | rfl) ((show (28 : Int32) = nI 28 from rfl)) (by decide) (by first | decide | omega) ?_
        refine wq_goto q220_37 ?_
        rw [eZ, h2 28 (Or.inl (by decide))]
        exact fin _ (by rw [if_pos c30])
/-- what is known by hearing -/
theorem c_rknow {te v : Nat} {W : Nat → Int32} {B many : Int32} (hr : Wok r) (hn : n ≤ 7) (h26 : hi 58 26 = nI n)
    (K : ∀ Z x6, (∀ p, p < n → Z (4 * p + 2) = W (4 * p + 2) ||| (if bt B p = true then 1 <<< (nI v &&& 31) else 0)) → (∀ j, (28 ≤ j ∨ ¬ j % 4 = 2) → Z j = W j) → wq G (0, 0) (d + 36) 220 153 [some (.ref 58), some (.ref r), some (.int (nI te)), some (.int many), some (.int (nI v)), some (.int B), x6] [] (0, 0) (HP (upC hi r Z) hl f dr t) Q) :
    ∀ (m p : Nat) (Z : Nat → Int32), p + m = n → (∀ q, q < p → Z (4 * q + 2) = W (4 * q + 2) ||| (if bt B q = true then 1 <<< (nI v &&& 31) else 0)) → (∀ j, (28 ≤ j ∨ ¬ j % 4 = 2 ∨ 4 * p ≤ j) → Z j = W j) →
    wq G (0, 0) (d + 36) 220 109 [some (.ref 58), some (.ref r), some (.int (nI te)), some (.int many), some (.int (nI v)), some (.int B), some (.int (nI p))] [] (0, 0) (HP (upC hi r Z) hl f dr t) Q := by
  have h58 := (hr.sh hi hl f dr t).2.1
  have ec : ∀ Z, hI (HP (upC hi r Z) hl f dr t) 58 26 = nI n := fun Z => by show upC hi r Z 58 26 = _; rw [upC_o _ _ (Ne.symm h58)]; exact h26
  have eZ : ∀ Z j, hI (HP (upC hi r Z) hl f dr t) r j = Z j := fun Z j => by show upC hi r Z r j = _; rw [upC_s]
  intro m
  induction m with
  | zero =>
    intro p Z hm h1 h2
    obtain rfl : p = n := by omega
    refine wq_iload q220_109 rfl ?_
    refine wq_aload_n q220_111 rfl ?_
    refine wq_getI q220_112 rfl rfl ?_
    refine wq_icmp_ge q220_115 (fun c115 => ?_) (fun c115 => ?_)
    · exact K Z _ h1 (fun j hj => h2 j (by omega))
    · rw [ec] at c115
      exact absurd (nI_le (Nat.le_refl _) (by omega)) c115
  | succ m ih =>
    intro p Z hm h1 h2
    obtain ⟨hs, -⟩ := hr.sh (upC hi r Z) hl f dr t
    have fin : ∀ y : Int32, y = (if bt B p = true then 1 <<< (nI v &&& 31) else 0) → wq G (0, 0) (d + 36) 220 145 [some (.ref 58), some (.ref r), some (.int (nI te)), some (.int many), some (.int (nI v)), some (.int B), some (.int (nI p))] [.int y, .int (W (4 * p + 2)), .int (4 * nI p + 2), .ref r] (0, 0) (HP (upC hi r Z) hl f dr t) Q := by
      intro y hy
      subst hy
      refine wq_ior q220_145 ?_
      refine sI q220_146 (by first | exact hs | rfl) (ix2 p) (by show 4 * p + 2 < 214; omega) (by first | decide | omega) (by first | exact hs | rfl) ?_
      refine wq_iinc (ls' := [_, _, _, _, _, _, _]) q220_147 rfl rfl ?_
      refine wq_goto q220_150 ?_
      rw [hpS, up2_C, upC_s, upC_C, nI_1]
      refine ih (p + 1) _ (by omega) (fun q hq => ?_) (fun j hj => ?_)
      · by_cases z : q = p
        · rw [z, vu_s]
        · rw [vu_o _ _ (by omega)]
          exact h1 q (by omega)
      · rw [vu_o _ _ (by omega)]
        exact h2 j (by omega)
    refine wq_iload q220_109 rfl ?_
    refine wq_aload_n q220_111 rfl ?_
    refine wq_getI q220_112 rfl rfl ?_
    refine wq_icmp_ge q220_115 (fun c115 => ?_) (fun c115 => ?_)
    · rw [ec, nI_leI (by omega) (by omega)] at c115
      omega
    · refine wq_aload_n q220_118 rfl ?_
      refine wq_iconst q220_119 ?_
      refine wq_iload q220_120 rfl ?_
      refine wq_imul q220_122 ?_
      refine wq_iconst q220_123 ?_
      refine wq_iadd q220_124 ?_
      refine wq_dup2 q220_125 rfl rfl ?_
      refine aI q220_126 (by first | exact hs | rfl) (ix2 p) (by show 4 * p + 2 < 214; omega) (by first | decide | omega) ?_
      rw [eZ, h2 (4 * p + 2) (by omega)]
      refine wq_iload q220_127 rfl ?_
      refine wq_iload q220_129 rfl ?_
      refine cS' (As := [_, _]) q220_131 m_171 rfl rfl rfl (c_rhas ?_)
      refine wq_if_eq q220_134 (fun c134 => ?_) (fun c134 => ?_)
      · have c := i01 c134
        rw [hsB_bt (by omega)] at c
        refine wq_iconst q220_144 ?_
        exact fin _ (by rw [if_neg (by rw [c]; decide)])
      · have c := i10 c134
        rw [hsB_bt (by omega)] at c
        refine wq_iconst q220_137 ?_
        refine wq_iload q220_138 rfl ?_
        refine wq_ishl q220_140 ?_
        refine wq_goto q220_141 ?_
        exact fin _ (by rw [if_pos c])
/-- one event, in the words of the class -/
theorem taS_eq {te v : Nat} {cost : Int32} {hold : Bool} {s : Nat → Nat} {x : taX} {B : Int32} (ht : toB hi f te hold v x.2.1 = true) (hB : B = hrR (spV hi f lw sz v x.2.1 s wi) x.2.1 wi n 0 0) : taS hi f lw sz n s wi te cost hold v x = ((heR B v te cost 7 0 (x.1, x.2.1)).1, va_up (heR B v te cost 7 0 (x.1, x.2.1)).2 31 ((heR B v te cost 7 0 (x.1, x.2.1)).2 31 + hi (f + 3) (v * 2)), x.2.2 + bc B) := by
  unfold taS
  rw [if_pos ht, hB]
/-- what the reference's event is, by the class's bits -/
theorem B_eq {v : Nat} {s : Nat → Nat} {x2 : Nat → Int32} (hfl : FLs f lw hi hi') (hs : ∀ c, c < n → sOf x2 c = s c) (hwi : wi < n) : hrR (spV hi' f lw sz v x2 (sOf x2) wi) x2 wi n 0 0 = hrR (spV hi f lw sz v x2 s wi) x2 wi n 0 0 := by
  rw [spV_congr hfl.2.1 hfl.2.2.1 hfl.2.2.2.1 (fun a ha => (hfl.2.2.2.2 a ha).2)]
  exact hrR_congr n 0 0 (fun j _ h2 => spV_sc hs hwi j (by omega))
/-- what the class's events leave of a row -/
theorem taS_keep {te v : Nat} {cost : Int32} {hold : Bool} {s : Nat → Nat} {x : taX} {j : Nat} (hte : te < 7) (hj : (j < 7 ∨ (14 ≤ j ∧ j < 21) ∨ 28 ≤ j) ∧ j ≠ 31) : (taS hi f lw sz n s wi te cost hold v x).2.1 j = x.2.1 j := by
  unfold taS
  split
  · show va_up _ 31 _ j = _
    rw [vu_o _ _ hj.2]
    by_cases h : 14 ≤ j ∧ j < 21
    · exact heR_mid hte h 7 0 _ (by omega)
    · exact heR_low hte (by omega) 7 0 _ (by omega)
  · rfl
/-- the telling of events, in both -/
theorem c_rtells_loop {te : Nat} {T : taX} (hF : RF hi f lw sz n ev wi) (hr : Wok r) (hte : te = sOf row wi) (hsit : ∀ c, c < n → sOf row c < n)
    (K : ∀ hi' t' x4 x5 x6, RNw r hi hi' → RW n T.2.1 (hi' r) → (∀ p, p < n → hi' r (4 * p + 2) = T.2.1 (21 + p) ||| (row 28 &&& (if p = te then row 28 else row (14 + p)))) → (∀ j, 33 ≤ j → hi' r j = hi r j) → (∀ j, ((j < 7 ∨ (14 ≤ j ∧ j < 21) ∨ 28 ≤ j) ∧ j ≠ 31) → T.2.1 j = row j) → wq G (0, 0) (d + 36) 220 167 [some (.ref 58), some (.ref r), some (.int (nI te)), some (.int T.2.2), x4, x5, x6] [] (0, 0) (HP hi' hl f dr t') Q) :
    ∀ (m v : Nat) (x : taX) (hi' : Nat → Nat → Int32) (t' : Nat) (x5 x6 : Option Value), v + m = ev → RNw r hi hi' → RW n x.2.1 (hi' r) → (∀ p, p < n → hi' r (4 * p + 2) = x.2.1 (21 + p) ||| (row 28 &&& (if p = te then row 28 else row (14 + p)))) → (∀ j, 33 ≤ j → hi' r j = hi r j) → (∀ j, ((j < 7 ∨ (14 ≤ j ∧ j < 21) ∨ 28 ≤ j) ∧ j ≠ 31) → x.2.1 j = row j) → taR hi f lw sz n (sOf row) wi te (hi (f + 1) 3) false m v x = T →
    wq G (0, 0) (d + 36) 220 61 [some (.ref 58), some (.ref r), some (.int (nI te)), some (.int x.2.2), some (.int (nI v)), x5, x6] [] (0, 0) (HP hi' hl f dr t') Q := by
  obtain ⟨hf, ⟨hn, hn1, hev, hwi, hc, hc4, hc0⟩, ⟨g1, g2, g3, g4, g5⟩, hFB, hlw⟩ := hF
  have hF : RF hi f lw sz n ev wi := ⟨hf, ⟨hn, hn1, hev, hwi, hc, hc4, hc0⟩, ⟨g1, g2, g3, g4, g5⟩, hFB, hlw⟩
  have hten : te < n := by rw [hte]; exact hsit wi hwi
  intro m
  induction m with
  | zero =>
    intro v x hi' t' x5 x6 hm hN hw hk h33 hx hT
    obtain rfl : v = ev := by omega
    rw [taR] at hT
    subst hT
    have ec : hI (HP hi' hl f dr t') 58 27 = nI v := (hN.2 27 (by decide)).trans g2
    refine wq_iload q220_61 rfl ?_
    refine wq_aload_n q220_63 rfl ?_
    refine wq_getI q220_64 rfl rfl ?_
    refine wq_icmp_ge q220_67 (fun c67 => ?_) (fun c67 => ?_)
    · exact K hi' t' _ _ _ hN hw hk h33 hx
    · rw [ec] at c67
      exact absurd (nI_le (Nat.le_refl _) (by omega)) c67
  | succ m ih =>
    intro v x hi' t' x5 x6 hm hN hw hk h33 hx hT
    have ec : hI (HP hi' hl f dr t') 58 27 = nI ev := (hN.2 27 (by decide)).trans g2
    have hF' := hN.mv hr hF
    have hfl := hN.fl hr hF
    have h63 : hi' 63 0 = nI wi := (hF'.2.2.1.2.2.1 0 (by decide)).trans hF'.2.1.2.2.2.2.2.2
    have hsx : ∀ c, c < n → sOf x.2.1 c = sOf row c := fun c hc => by unfold sOf; rw [hx c ⟨Or.inl (by omega), by omega⟩]
    have e65 : hi' 65 (sOf x.2.1 wi * 5 + 3) = hi (f + 2) (te * 5 + 3) := by
      rw [hsx wi hwi, ← hte, hF'.2.2.1.2.2.2.1 _ (by omega), hfl.2.2.1]
    have e28 : hi' r 28 = x.2.1 28 := hw.2.2.2.2.1
    have e30 : hi' r 30 = x.2.1 31 := hw.2.2.2.2.2.2.1
    have e632 : hi' 63 2 = hi (f + 1) 2 := (hF'.2.2.1.2.2.1 2 (by decide)).trans (by rw [hfl.2.1])
    have e633 : hI (HP hi' hl f dr t') 63 3 = hi (f + 1) 3 := (hF'.2.2.1.2.2.1 3 (by decide)).trans (by rw [hfl.2.1])
    have hse : hsB (x.2.1 28) (nI v) = seB x.2.1 v := rfl
    rw [taR] at hT
    have skip : toB hi f te false v x.2.1 = false → wq G (0, 0) (d + 36) 220 161 [some (.ref 58), some (.ref r), some (.int (nI te)), some (.int x.2.2), some (.int (nI v)), x5, x6] [] (0, 0) (HP hi' hl f dr t') Q := by
      intro hno
      have e : taS hi f lw sz n (sOf row) wi te (hi (f + 1) 3) false v x = x := by unfold taS; rw [if_neg (by rw [hno]; decide)]
      rw [e] at hT
      refine wq_iinc (ls' := [_, _, _, _, _, _, _]) q220_161 rfl rfl ?_
      refine wq_goto q220_164 ?_
      rw [nI_1]
      exact ih (v + 1) x hi' t' _ _ (by omega) hN hw hk h33 hx hT
    refine wq_iload q220_61 rfl ?_
    refine wq_aload_n q220_63 rfl ?_
    refine wq_getI q220_64 rfl rfl ?_
    refine wq_icmp_ge q220_67 (fun c67 => ?_) (fun c67 => ?_)
    · rw [ec, nI_leI (by omega) (by omega)] at c67
      omega
    · refine wq_aload_n q220_70 rfl ?_
      refine wq_aload_n q220_71 rfl ?_
      refine wq_iload q220_72 rfl ?_
      refine cV (As := [_, _]) q220_74 m_219 rfl rfl rfl ⟨by decide, rfl⟩ rfl (c_risToldBy (d := d + 33) hr hn hF'.2.2.1.1 h63 hw hwi ?_)
      refine wq_if_eq q220_77 (fun c77 => ?_) (fun c77 => ?_)
      · have c := p01 c77
        rw [e28, e65, hse] at c
        refine skip ?_
        unfold toB
        by_cases z : seB x.2.1 v = true
        · have : lvO hi f te = nI v := (lv_eq (n := n) hc4 hev (by omega)).mpr (Decidable.byContradiction (fun q => c ⟨z, q⟩))
          rw [this]
          simp
        · simp [z]
      · have c := p10 c77
        rw [e28, e65, hse] at c
        have hl0 : ¬ lvO hi f te = nI v := fun z => c.2 ((lv_eq (n := n) hc4 hev (by omega)).mp z)
        refine wq_aload_n q220_80 rfl ?_
        refine wq_aload_n q220_81 rfl ?_
        refine cV (As := [_]) q220_82 m_217 rfl rfl rfl ⟨by decide, rfl⟩ rfl (c_risWorn hr ?_)
        refine wq_if_eq q220_85 (fun c85 => ?_) (fun c85 => ?_)
        · have cw := p01 c85
          rw [e30, e632] at cw
          have hto : toB hi f te false v x.2.1 = true := by
            unfold toB
            rw [c.1, decide_eq_false hl0, decide_eq_true (Int32.not_le.mp cw)]
            rfl
          obtain ⟨B, hB⟩ : ∃ B, B = hrR (spV hi f lw sz v x.2.1 (sOf row) wi) x.2.1 wi n 0 0 := ⟨_, rfl⟩
          have eT := taS_eq (cost := hi (f + 1) 3) hto hB
          rw [eT] at hT
          have hstx : sOf x.2.1 wi = te := by rw [hsx wi hwi, hte]
          refine wq_aload_n q220_91 rfl ?_
          refine wq_aload_n q220_92 rfl ?_
          refine wq_iload q220_93 rfl ?_
          refine wq_aload_n q220_95 rfl ?_
          refine wq_getR q220_96 rfl rfl rfl ?_
          refine wq_iconst q220_99 ?_
          refine aI q220_100 rfl ((show (3 : Int32) = nI 3 from rfl)) (by decide) (by first | decide | omega) ?_
          rw [e633]
          refine cV (As := [_, _, _]) q220_101 m_218 rfl rfl rfl ⟨by decide, rfl⟩ rfl (c_rone (d := d) (B := B) (x1 := x.1) hF' hr hw (by omega) (by rw [hB]; exact (B_eq hfl hsx hwi).symm) (fun hi2 t2 hN2 hw2 hk2 h332 => ?_))
          rw [hstx, hfl.2.2.2.1] at hw2
          have hr58 := (hr.sh hi2 hl f dr t2).2.1
          refine wq_istore (ls' := [_, _, _, _, _, _, _]) q220_104 rfl ?_
          refine wq_iconst q220_106 ?_
          refine wq_istore (ls' := [_, _, _, _, _, _, _]) q220_107 rfl ?_
          rw [← upC_self hi2 r rfl]
          refine c_rknow (W := hi2 r) hr hn ((hN.tr hN2).mv hr hF).2.2.1.1 (fun Z x6 z1 z2 => ?_) n 0 _ (by omega) (fun q hq => by omega) (fun _ _ => rfl)
          refine wq_iload_n q220_153 rfl ?_
          refine wq_iload q220_154 rfl ?_
          refine cS' (As := [_]) q220_156 m_295 rfl rfl rfl (c_bitCount ?_)
          refine wq_iadd q220_159 ?_
          refine wq_istore_n (ls' := [_, _, _, _, _, _, _]) q220_160 rfl ?_
          refine wq_iinc (ls' := [_, _, _, _, _, _, _]) q220_161 rfl rfl ?_
          refine wq_goto q220_164 ?_
          rw [nI_1]
          refine ih (v + 1) _ (upC hi2 r Z) t2 _ _ (by omega) ((hN.tr hN2).up hr58 Z) ?_ (fun p hp => ?_) (fun j hj => ?_) (fun j hj => ?_) hT
          · rw [upC_s]
            exact hw2.scal hn (fun _ _ => rfl) (fun j _ hj2 => z2 j (Or.inr hj2)) ((z2 28 (Or.inl (by decide))).trans hw2.2.2.2.2.1) ((z2 29 (Or.inl (by decide))).trans hw2.2.2.2.2.2.1) ((z2 30 (Or.inl (by decide))).trans hw2.2.2.2.2.2.2.1) ((z2 31 (Or.inl (by decide))).trans hw2.2.2.2.2.2.2.2.1) ((z2 32 (Or.inl (by decide))).trans hw2.2.2.2.2.2.2.2.2)
          · rw [upC_s, z1 p hp, hk2 p hp, hk p hp]
            show _ = va_up _ 31 _ (21 + p) ||| _
            rw [vu_o _ _ (by omega), (heR_know (by omega) 7 0 (x.1, x.2.1) (by omega)).1]
            generalize row 28 &&& (if p = te then row 28 else row (14 + p)) = bs
            by_cases hb : bt B p = true
            · rw [if_pos hb, if_pos ⟨by omega, by omega, hb⟩, or_sw]
            · rw [if_neg hb, if_neg (fun z => hb z.2.2), or_z]
          · rw [upC_s, z2 j (Or.inl (by omega)), h332 j hj]
            exact h33 j hj
          · have hkeep := taS_keep (hi := hi) (f := f) (lw := lw) (sz := sz) (n := n) (wi := wi) (te := te) (v := v) (cost := hi (f + 1) 3) (hold := false) (s := sOf row) (x := x) (show te < 7 by omega) hj
            rw [eT] at hkeep
            exact hkeep.trans (hx j hj)
        · have cw := p10 c85
          rw [e30, e632] at cw
          refine wq_goto q220_88 ?_
          refine skip ?_
          unfold toB
          rw [decide_eq_false (Int32.not_lt.mpr cw)]
          simp
/-- all that is seen is told -/
theorem c_rtells (hF : RF hi f lw sz n ev wi) (hr : Wok r) (hw : RW n row (hi r)) (hk : KN n row (hi r))
    (hQ : ∀ hi' t', RNw r hi hi' → RW n (chg hi f lw sz n ev (sOf row) wi row 2 (-1) (-1)) (hi' r) → KN n (chg hi f lw sz n ev (sOf row) wi row 2 (-1) (-1)) (hi' r) → (∀ j, 33 ≤ j → hi' r j = hi r j) → Q (some (.int (chg hi f lw sz n ev (sOf row) wi row 2 (-1) (-1) 29))) (HP hi' hl f dr t')) :
    Ct G (0, 0) (d + 36) 220 [.ref 58, .ref r] (HP hi hl f dr t) Q := by
  have hn := hF.2.1.1
  have hwi := hF.2.1.2.2.2.1
  have hr58 := (hr.sh hi hl f dr t).2.1
  obtain ⟨s1, s2, s3⟩ := hw.s hn hwi
  obtain ⟨T, hT⟩ : ∃ T, taR hi f lw sz n (sOf row) wi (sOf row wi) (hi (f + 1) 3) false ev 0 (fun _ => 0, row, 0) = T := ⟨_, rfl⟩
  have echg : chg hi f lw sz n ev (sOf row) wi row 2 (-1) (-1) = wtR T.2.1 (sOf row wi) T.2.2 n := by
    unfold chg tellR
    rw [if_neg (by decide), if_neg (by decide), if_pos rfl, hT]
  rw [echg] at hQ
  refine Ct_of (ls := [_, _, _, _, _, _, _]) m_220.1.2.2.1 (Nat.le_of_ble_eq_true rfl) rfl ?_
  refine wq_aload_n q220_0 rfl ?_
  refine wq_aload_n q220_1 rfl ?_
  refine cV (As := [_]) q220_2 m_213 rfl rfl rfl ⟨by decide, rfl⟩ rfl (c_rteller hr hn hF.2.2.1.1 ((hF.2.2.1.2.2.1 0 (by decide)).trans hF.2.1.2.2.2.2.2.2) hw hwi ?_)
  rw [s2]
  refine wq_istore_n (ls' := [_, _, _, _, _, _, _]) q220_5 rfl ?_
  refine wq_iconst q220_6 ?_
  refine wq_istore_n (ls' := [_, _, _, _, _, _, _]) q220_7 rfl ?_
  rw [← upC_self hi r rfl]
  refine c_rbase (W := hi r) hr hn hF.2.2.1.1 (by omega) (fun Z x3 z1 z2 => ?_) n 0 _ (by omega) (fun q hq => by omega) (fun _ _ => rfl)
  have hN : RNw r hi (upC hi r Z) := RNw.rf.up hr58 Z
  refine wq_iconst q220_56 ?_
  refine wq_istore_n (ls' := [_, _, _, _, _, _, _]) q220_57 rfl ?_
  refine wq_iconst q220_58 ?_
  refine wq_istore (ls' := [_, _, _, _, _, _, _]) q220_59 rfl ?_
  refine c_rtells_loop (row := row) (T := T) (te := sOf row wi) hF hr rfl (fun c hc => (hw.s hn hc).1) (fun hi' t' x4 x5 x6 hN hw' hk' h33 hx => ?_) ev 0 (fun _ => 0, row, 0) (upC hi r Z) t _ _ (by omega) hN ?_ (fun p hp => ?_) (fun j hj => ?_) (fun _ _ => rfl) hT
  · obtain ⟨hs, -⟩ := hr.sh hi' hl f dr t'
    refine wq_aload_n q220_167 rfl ?_
    refine wq_bipush q220_168 ?_
    refine wq_iconst q220_170 ?_
    refine sI q220_171 (by first | exact hs | rfl) ((show (29 : Int32) = nI 29 from rfl)) (by decide) (by first | decide | omega) (by first | exact hs | rfl) ?_
    rw [hpS, up2_C]
    obtain ⟨hs2, -⟩ := hr.sh (upC hi' r (va_up (hi' r) 29 1)) hl f dr t'
    refine wq_aload_n q220_172 rfl ?_
    refine wq_bipush q220_173 ?_
    refine wq_iload_n q220_175 rfl ?_
    refine sI q220_176 (by first | exact hs2 | rfl) ((show (31 : Int32) = nI 31 from rfl)) (by decide) (by first | decide | omega) (by first | exact hs2 | rfl) ?_
    rw [hpS, up2_C, upC_s, upC_C]
    refine wq_iload_n q220_177 rfl ?_
    refine rI q220_178 rfl ?_
    have e29 : wtR T.2.1 (sOf row wi) T.2.2 n 29 = T.2.2 := by
      unfold wtR
      rw [vu_o _ _ (by decide), vu_s]
    rw [e29] at hQ
    have h28 : T.2.1 28 = row 28 := hx 28 (by decide)
    have hA : ∀ j, j < 21 ∨ 28 ≤ j → ¬ j = 29 → ¬ j = 30 → wtR T.2.1 (sOf row wi) T.2.2 n j = T.2.1 j := by
      intro j h1 h2 h3
      unfold wtR wtA
      rw [vu_o _ _ h3, vu_o _ _ h2]
      rw [if_neg (by omega), vu_o _ _ (by omega)]
    refine hQ _ t' (hN.up hr58 _) ?_ (fun p hp => ?_) (fun j hj => ?_)
    · rw [upC_s]
      refine hw'.scal hn (fun j hj => hA j (by omega) (by omega) (by omega)) (fun j hj _ => by rw [vu_o _ _ (by omega), vu_o _ _ (by omega)]) ?_ ?_ ?_ ?_ ?_
      · rw [vu_o _ _ (by decide), vu_o _ _ (by decide), hA 28 (by omega) (by omega) (by omega)]
        exact hw'.2.2.2.2.1
      · rw [vu_o _ _ (by decide), vu_s]
        unfold wtR
        rw [vu_s]
      · rw [vu_o _ _ (by decide), vu_o _ _ (by decide), hA 31 (by omega) (by omega) (by omega)]
        exact hw'.2.2.2.2.2.2.1
      · rw [vu_s, e29]
      · rw [vu_o _ _ (by decide), vu_o _ _ (by decide), hA 32 (by omega) (by omega) (by omega)]
        exact hw'.2.2.2.2.2.2.2.2
    · rw [upC_s, vu_o _ _ (by omega), vu_o _ _ (by omega), hk' p hp]
      unfold wtR wtA
      rw [vu_o _ _ (by omega), vu_o _ _ (by omega)]
      rw [if_pos (show 21 ≤ 21 + p ∧ 21 + p < 21 + n by omega), show 21 + p - 7 = 14 + p by omega, vu_o (k := 21 + sOf row wi) (j := 28) _ _ (by omega), vu_o (k := 21 + sOf row wi) (j := 14 + p) _ _ (by omega), hx (14 + p) (by omega), h28]
      by_cases hpt : p = sOf row wi
      · rw [if_pos hpt, ← hpt, vu_s]
        refine b_ext (fun i _ => ?_)
        rw [b_or, b_or, b_or, b_and, b_and]
        cases bt (T.2.1 (21 + p)) i <;> cases bt (row 28) i <;> cases bt (row (14 + p)) i <;> rfl
      · rw [if_neg hpt, vu_o _ _ (by omega)]
    · rw [upC_s, vu_o _ _ (by omega), vu_o _ _ (by omega)]
      exact h33 j hj
  · rw [upC_s]
    exact hw.scal hn (fun _ _ => rfl) (fun j _ hj2 => z2 j (Or.inr hj2)) ((z2 28 (Or.inl (by decide))).trans hw.2.2.2.2.1) ((z2 29 (Or.inl (by decide))).trans hw.2.2.2.2.2.1) ((z2 30 (Or.inl (by decide))).trans hw.2.2.2.2.2.2.1) ((z2 31 (Or.inl (by decide))).trans hw.2.2.2.2.2.2.2.1) ((z2 32 (Or.inl (by decide))).trans hw.2.2.2.2.2.2.2.2)
  · rw [upC_s, z1 p hp, hk p hp, hw.2.2.2.2.1, hw.2.2.2.1 p hp]
  · rw [upC_s, z2 j (Or.inl (by omega))]
end REFTELLS
