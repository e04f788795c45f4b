/-! THE REFERENCE: copies of rows, days that end -/
/-- a row behind the end of a day -/
def DkP (n lg : Nat) (w w' : Nat → Int32) : Prop := (∀ p, p < n → w' (4 * p) = w (4 * p) ∧ w' (4 * p + 1) = w (4 * p + 1) ∧ w' (4 * p + 3) = w (4 * p + 3) ∧ w' (4 * p + 2) = 0) ∧ w' 28 = 0 ∧ w' 29 = 0 ∧ w' 31 = 0 ∧ w' 30 = w 30 ∧ w' 32 = w 32 + 1 ∧ w' 33 = nI (min (lg + 1) 60) ∧
  (∀ i k, i + 1 < min (lg + 1) 60 → k < 3 → w' (34 + 3 * i + k) = w (34 + 3 * (i + (if lg = 60 then 1 else 0)) + k)) ∧ w' (34 + 3 * (min (lg + 1) 60 - 1)) = w 28 ∧ w' (34 + 3 * (min (lg + 1) 60 - 1) + 1) = w 31 ∧ w' (34 + 3 * (min (lg + 1) 60 - 1) + 2) = w 30
section REFKEEP
variable {G : ph_G} {d f dr t n r ev wi : Nat} {hi hi' : Nat → Nat → Int32} {hl : Nat → Nat → Int64} {Q : Option Value → ph_H → Prop} {row : Nat → Int32}
/-- the log moves by one -/
theorem c_dk_shift {x0 : Value} {W : Nat → Int32} (hr : Wok r) (K : ∀ Z x2, (∀ j, j < 34 → Z j = W j) → (∀ j, 34 ≤ j → j < 211 → Z j = W (j + 3)) → wq G (0, 0) d 221 38 [some x0, some (.ref r), x2, none] [] (0, 0) (HP (upC hi r Z) hl f dr t) Q) : ∀ (m k : Nat) (Z : Nat → Int32), k + m = 178 → 1 ≤ k → (∀ j, j < 34 → Z j = W j) → (∀ j, 34 ≤ j → j < 33 + k → Z j = W (j + 3)) → (∀ j, 33 + k ≤ j → Z j = W j) →
    wq G (0, 0) d 221 11 [some x0, some (.ref r), some (.int (nI k)), none] [] (0, 0) (HP (upC hi r Z) hl f dr t) Q := by
  intro m
  induction m with
  | zero =>
    intro k Z hm h1 hZ hZ2 hZ3
    obtain rfl : k = 178 := by omega
    refine wq_iload_n q221_11 rfl ?_
    refine wq_sipush q221_12 ?_
    refine wq_icmp_gt q221_15 (fun c15 => ?_) (fun c15 => ?_)
    · exact K Z _ hZ (fun j hj hj2 => hZ2 j hj (by omega))
    · exact absurd (by decide) c15
  | succ m ih =>
    intro k Z hm h1 hZ hZ2 hZ3
    obtain ⟨hs, -⟩ := hr.sh (upC hi r Z) hl f dr t
    refine wq_iload_n q221_11 rfl ?_
    refine wq_sipush q221_12 ?_
    refine wq_icmp_gt q221_15 (fun c15 => ?_) (fun c15 => ?_)
    · rw [show (177 : Int32) = nI 177 from rfl, nI_ltI (by omega) (by omega)] at c15
      omega
    · refine wq_aload_n q221_18 rfl ?_
      refine wq_bipush q221_19 ?_
      refine wq_iload_n q221_21 rfl ?_
      refine wq_iadd q221_22 ?_
      refine wq_aload_n q221_23 rfl ?_
      refine wq_bipush q221_24 ?_
      refine wq_iload_n q221_26 rfl ?_
      refine wq_iadd q221_27 ?_
      refine wq_iconst q221_28 ?_
      refine wq_iadd q221_29 ?_
      refine aI q221_30 (by first | exact hs | rfl) ((by rw [show (33 : Int32) = nI 33 from rfl, nI_add, show (3 : Int32) = nI 3 from rfl, nI_add])) (by show 33 + k + 3 < 214; omega) (by first | decide | omega) ?_
      refine sI q221_31 (by first | exact hs | rfl) ((by rw [show (33 : Int32) = nI 33 from rfl, nI_add])) (by show 33 + k < 214; omega) (by first | decide | omega) (by first | exact hs | rfl) ?_
      refine wq_iinc (ls' := [_, _, _, _]) q221_32 rfl rfl ?_
      refine wq_goto q221_35 ?_
      rw [hpS, up2_C, upC_s, upC_C, nI_1]
      have e : hI (HP (upC hi r Z) hl f dr t) r (33 + k + 3) = Z (33 + k + 3) := by show upC hi r Z r _ = _; rw [upC_s]
      rw [e]
      refine ih (k + 1) _ (by omega) (by omega) (fun j hj => ?_) (fun j hj hj2 => ?_) (fun j hj => ?_)
      · rw [vu_o _ _ (by omega)]
        exact hZ j hj
      · by_cases h : j = 33 + k
        · rw [h, vu_s]
          exact hZ3 _ (by omega)
        · rw [vu_o _ _ h]
          exact hZ2 j hj (by omega)
      · rw [vu_o _ _ (by omega)]
        exact hZ3 j (by omega)
/-- nobody knows -/
theorem c_dk_know {x2 : Int32} {W : Nat → Int32} (hr : Wok r) (hn : n ≤ 7) (h26 : hi 58 26 = nI n) (K : ∀ Z x3, (∀ p, p < n → Z (4 * p + 2) = 0) → (∀ j, (28 ≤ j ∨ ¬ j % 4 = 2) → Z j = W j) → wq G (0, 0) d 221 128 [some (.ref 58), some (.ref r), some (.int x2), x3] [] (0, 0) (HP (upC hi r Z) hl f dr t) Q) : ∀ (m k : Nat) (Z : Nat → Int32), k + m = n → (∀ p, p < k → Z (4 * p + 2) = 0) → (∀ j, (28 ≤ j ∨ ¬ j % 4 = 2) → Z j = W j) →
    wq G (0, 0) d 221 106 [some (.ref 58), some (.ref r), some (.int x2), some (.int (nI k))] [] (0, 0) (HP (upC hi r Z) hl f dr t) Q := by
  have ec : ∀ Z, hI (HP (upC hi r Z) hl f dr t) 58 26 = nI n := fun Z => by
    show upC hi r Z 58 26 = _
    rw [upC_o _ _ (Ne.symm (hr.sh hi hl f dr t).2.1)]
    exact h26
  intro m
  induction m with
  | zero =>
    intro k Z hm hZ hZ2
    obtain rfl : k = n := by omega
    refine wq_iload_n q221_106 rfl ?_
    refine wq_aload_n q221_107 rfl ?_
    refine wq_getI q221_108 rfl rfl ?_
    refine wq_icmp_ge q221_111 (fun c111 => ?_) (fun c111 => ?_)
    · exact K Z _ hZ hZ2
    · rw [ec] at c111
      exact absurd (nI_le (Nat.le_refl _) (by omega)) c111
  | succ m ih =>
    intro k Z hm hZ hZ2
    obtain ⟨hs, -⟩ := hr.sh (upC hi r Z) hl f dr t
    refine wq_iload_n q221_106 rfl ?_
    refine wq_aload_n q221_107 rfl ?_
    refine wq_getI q221_108 rfl rfl ?_
    refine wq_icmp_ge q221_111 (fun c111 => ?_) (fun c111 => ?_)
    · rw [ec, nI_leI (by omega) (by omega)] at c111
      omega
    · refine wq_aload_n q221_114 rfl ?_
      refine wq_iconst q221_115 ?_
      refine wq_iload_n q221_116 rfl ?_
      refine wq_imul q221_117 ?_
      refine wq_iconst q221_118 ?_
      refine wq_iadd q221_119 ?_
      refine wq_iconst q221_120 ?_
      refine sI q221_121 (by first | exact hs | rfl) (ix2 k) (by show 4 * k + 2 < 214; omega) (by first | decide | omega) (by first | exact hs | rfl) ?_
      refine wq_iinc (ls' := [_, _, _, _]) q221_122 rfl rfl ?_
      refine wq_goto q221_125 ?_
      rw [hpS, up2_C, upC_s, upC_C, nI_1]
      refine ih (k + 1) _ (by omega) (fun p hp => ?_) (fun j hj => ?_)
      · by_cases h : p = k
        · rw [h, vu_s]
        · rw [vu_o _ _ (by omega)]
          exact hZ p (by omega)
      · rw [vu_o _ _ (by omega)]
        exact hZ2 j hj
/-- the end of a day, from the log's place on -/
theorem c_dk_end {lg : Nat} {W : Nat → Int32} {x2 : Option Value} (hr : Wok r) (hn : n ≤ 7) (h26 : hi 58 26 = nI n) (hlg : lg < 60) (h33 : W 33 = nI lg)
    (hQ : ∀ W', (∀ p, p < n → W' (4 * p + 2) = 0) → W' 28 = 0 → W' 29 = 0 → W' 31 = 0 → W' 32 = W 32 + 1 → W' 33 = nI (lg + 1) → W' (34 + 3 * lg) = W 28 → W' (34 + 3 * lg + 1) = W 31 → W' (34 + 3 * lg + 2) = W 30 → (∀ j, (28 ≤ j ∨ ¬ j % 4 = 2) → j ≠ 28 → j ≠ 29 → j ≠ 31 → j ≠ 32 → j ≠ 33 → (j < 34 + 3 * lg ∨ 34 + 3 * lg + 2 < j) → W' j = W j) → Q none (HP (upC hi r W') hl f dr t)) :
    wq G (0, 0) d 221 46 [some (.ref 58), some (.ref r), x2, none] [] (0, 0) (HP (upC hi r W) hl f dr t) Q := by
  have hs : ∀ Z, (hS (HP (upC hi r Z) hl f dr t))[r]? = some (100, 214) := fun Z => (hr.sh (upC hi r Z) hl f dr t).1
  have ev : ∀ Z j, hI (HP (upC hi r Z) hl f dr t) r j = Z j := fun Z j => by show upC hi r Z r j = _; rw [upC_s]
  have e34 : (34 : Int32) + 3 * nI lg = nI (34 + 3 * lg) := by rw [show (3 : Int32) = nI 3 from rfl, pk_mul, show (34 : Int32) = nI 34 from rfl, nI_add]
  have hs1 := hs W
  refine wq_bipush q221_46 ?_
  refine wq_iconst q221_48 ?_
  refine wq_aload_n q221_49 rfl ?_
  refine wq_bipush q221_50 ?_
  refine aI q221_52 (by first | exact hs1 | rfl) ((show (33 : Int32) = nI 33 from rfl)) (by decide) (by first | decide | omega) ?_
  rw [ev, h33]
  refine wq_imul q221_53 ?_
  refine wq_iadd q221_54 ?_
  rw [e34]
  refine wq_istore_n (ls' := [_, _, _, _]) q221_55 rfl ?_
  refine wq_aload_n q221_56 rfl ?_
  refine wq_iload_n q221_57 rfl ?_
  refine wq_aload_n q221_58 rfl ?_
  refine wq_bipush q221_59 ?_
  refine aI q221_61 (by first | exact hs1 | rfl) ((show (28 : Int32) = nI 28 from rfl)) (by decide) (by first | decide | omega) ?_
  refine sI q221_62 (by first | exact hs1 | rfl) (rfl) (by show 34 + 3 * lg < 214; omega) (by first | decide | omega) (by first | exact hs1 | rfl) ?_
  rw [hpS, up2_C, upC_s, upC_C, ev]
  generalize g1 : va_up W (34 + 3 * lg) (W 28) = W1
  have hs1 := hs W1
  refine wq_aload_n q221_63 rfl ?_
  refine wq_iload_n q221_64 rfl ?_
  refine wq_iconst q221_65 ?_
  refine wq_iadd q221_66 ?_
  refine wq_aload_n q221_67 rfl ?_
  refine wq_bipush q221_68 ?_
  refine aI q221_70 (by first | exact hs1 | rfl) ((show (31 : Int32) = nI 31 from rfl)) (by decide) (by first | decide | omega) ?_
  refine sI q221_71 (by first | exact hs1 | rfl) (nI_1 _) (by show 34 + 3 * lg + 1 < 214; omega) (by first | decide | omega) (by first | exact hs1 | rfl) ?_
  rw [hpS, up2_C, upC_s, upC_C, ev]
  generalize g2 : va_up W1 (34 + 3 * lg + 1) (W1 31) = W2
  have hs1 := hs W2
  refine wq_aload_n q221_72 rfl ?_
  refine wq_iload_n q221_73 rfl ?_
  refine wq_iconst q221_74 ?_
  refine wq_iadd q221_75 ?_
  refine wq_aload_n q221_76 rfl ?_
  refine wq_bipush q221_77 ?_
  refine aI q221_79 (by first | exact hs1 | rfl) ((show (30 : Int32) = nI 30 from rfl)) (by decide) (by first | decide | omega) ?_
  refine sI q221_80 (by first | exact hs1 | rfl) (nI_add _ 2) (by show 34 + 3 * lg + 2 < 214; omega) (by first | decide | omega) (by first | exact hs1 | rfl) ?_
  rw [hpS, up2_C, upC_s, upC_C, ev]
  generalize g3 : va_up W2 (34 + 3 * lg + 2) (W2 30) = W3
  have hs1 := hs W3
  refine wq_aload_n q221_81 rfl ?_
  refine wq_bipush q221_82 ?_
  refine wq_dup2 q221_84 rfl rfl ?_
  refine aI q221_85 (by first | exact hs1 | rfl) ((show (33 : Int32) = nI 33 from rfl)) (by decide) (by first | decide | omega) ?_
  refine wq_iconst q221_86 ?_
  refine wq_iadd q221_87 ?_
  refine sI q221_88 (by first | exact hs1 | rfl) ((show (33 : Int32) = nI 33 from rfl)) (by decide) (by first | decide | omega) (by first | exact hs1 | rfl) ?_
  rw [hpS, up2_C, upC_s, upC_C, ev]
  generalize g4 : va_up W3 33 (W3 33 + 1) = W4
  have hs1 := hs W4
  refine wq_aload_n q221_89 rfl ?_
  refine wq_bipush q221_90 ?_
  refine wq_iconst q221_92 ?_
  refine sI q221_93 (by first | exact hs1 | rfl) ((show (28 : Int32) = nI 28 from rfl)) (by decide) (by first | decide | omega) (by first | exact hs1 | rfl) ?_
  rw [hpS, up2_C, upC_s, upC_C]
  generalize g5 : va_up W4 28 0 = W5
  have hs1 := hs W5
  refine wq_aload_n q221_94 rfl ?_
  refine wq_bipush q221_95 ?_
  refine wq_iconst q221_97 ?_
  refine sI q221_98 (by first | exact hs1 | rfl) ((show (29 : Int32) = nI 29 from rfl)) (by decide) (by first | decide | omega) (by first | exact hs1 | rfl) ?_
  rw [hpS, up2_C, upC_s, upC_C]
  generalize g6 : va_up W5 29 0 = W6
  have hs1 := hs W6
  refine wq_aload_n q221_99 rfl ?_
  refine wq_bipush q221_100 ?_
  refine wq_iconst q221_102 ?_
  refine sI q221_103 (by first | exact hs1 | rfl) ((show (31 : Int32) = nI 31 from rfl)) (by decide) (by first | decide | omega) (by first | exact hs1 | rfl) ?_
  rw [hpS, up2_C, upC_s, upC_C]
  generalize g7 : va_up W6 31 0 = W7
  refine wq_iconst q221_104 ?_
  refine wq_istore_n (ls' := [_, _, _, _]) q221_105 rfl ?_
  have hW3 : W3 33 = nI lg := by
    rw [← g3, vu_o _ _ (by omega), ← g2, vu_o _ _ (by omega), ← g1, vu_o _ _ (by omega)]
    exact h33
  have hlow : ∀ j, j ≠ 28 → j ≠ 29 → j ≠ 31 → j ≠ 33 → (j < 34 + 3 * lg ∨ 34 + 3 * lg + 2 < j) → W7 j = W j := by
    intro j z1 z2 z3 z4 z5
    rw [← g7, vu_o _ _ z3, ← g6, vu_o _ _ z2, ← g5, vu_o _ _ z1, ← g4, vu_o _ _ z4, ← g3, vu_o _ _ (by omega), ← g2, vu_o _ _ (by omega), ← g1, vu_o _ _ (by omega)]
  have hup : ∀ j, 34 ≤ j → W7 j = W3 j := by
    intro j hj
    rw [← g7, vu_o _ _ (by omega), ← g6, vu_o _ _ (by omega), ← g5, vu_o _ _ (by omega), ← g4, vu_o _ _ (by omega)]
  refine c_dk_know (W := W7) hr hn h26 (fun Z _ z1 z2 => ?_) n 0 W7 (by omega) (fun p hp => by omega) (fun _ _ => rfl)
  have hs1 := hs Z
  refine wq_aload_n q221_128 rfl ?_
  refine wq_bipush q221_129 ?_
  refine wq_dup2 q221_131 rfl rfl ?_
  refine aI q221_132 (by first | exact hs1 | rfl) ((show (32 : Int32) = nI 32 from rfl)) (by decide) (by first | decide | omega) ?_
  refine wq_iconst q221_133 ?_
  refine wq_iadd q221_134 ?_
  refine sI q221_135 (by first | exact hs1 | rfl) ((show (32 : Int32) = nI 32 from rfl)) (by decide) (by first | decide | omega) (by first | exact hs1 | rfl) ?_
  refine rV q221_136 ?_
  rw [hpS, up2_C, upC_s, upC_C, ev]
  refine hQ _ (fun p hp => ?_) ?_ ?_ ?_ ?_ ?_ ?_ ?_ ?_ (fun j j1 j2 j3 j4 j5 j6 j7 => ?_)
  · rw [vu_o _ _ (by omega)]
    exact z1 p hp
  · rw [vu_o _ _ (by decide), z2 28 (Or.inl (by decide)), ← g7, vu_o _ _ (by decide), ← g6, vu_o _ _ (by decide), ← g5, vu_s]
  · rw [vu_o _ _ (by decide), z2 29 (Or.inl (by decide)), ← g7, vu_o _ _ (by decide), ← g6, vu_s]
  · rw [vu_o _ _ (by decide), z2 31 (Or.inl (by decide)), ← g7, vu_s]
  · rw [vu_s, z2 32 (Or.inl (by decide)), hlow 32 (by decide) (by decide) (by decide) (by decide) (by omega)]
  · rw [vu_o _ _ (by decide), z2 33 (Or.inl (by decide)), ← g7, vu_o _ _ (by decide), ← g6, vu_o _ _ (by decide), ← g5, vu_o _ _ (by decide), ← g4, vu_s, hW3, nI_1]
  · rw [vu_o _ _ (by omega), z2 _ (Or.inl (by omega)), hup _ (by omega), ← g3, vu_o _ _ (by omega), ← g2, vu_o _ _ (by omega), ← g1, vu_s]
  · rw [vu_o _ _ (by omega), z2 _ (Or.inl (by omega)), hup _ (by omega), ← g3, vu_o _ _ (by omega), ← g2, vu_s, ← g1, vu_o _ _ (by omega)]
  · rw [vu_o _ _ (by omega), z2 _ (Or.inl (by omega)), hup _ (by omega), ← g3, vu_s, ← g2, vu_o _ _ (by omega), ← g1, vu_o _ _ (by omega)]
  · rw [vu_o _ _ j5, z2 j j1]
    exact hlow j j2 j3 j4 j6 j7
/-- a day ends -/
theorem c_darkens {lg : Nat} (hr : Wok r) (hn : n ≤ 7) (h26 : hi 58 26 = nI n) (hlg : lg ≤ 60) (h33 : hi r 33 = nI lg) (hQ : ∀ W', DkP n lg (hi r) W' → Q none (HP (upC hi r W') hl f dr t)) : Ct G (0, 0) d 221 [.ref 58, .ref r] (HP hi hl f dr t) Q := by
  obtain ⟨hs, h58, -⟩ := hr.sh hi hl f dr t
  have e33 : hI (HP hi hl f dr t) r 33 = nI lg := h33
  refine Ct_of (ls := [_, _, _, _]) m_221.1.2.2.1 (Nat.le_of_ble_eq_true rfl) rfl ?_
  refine wq_aload_n q221_0 rfl ?_
  refine wq_bipush q221_1 ?_
  refine aI q221_3 (by first | exact hs | rfl) ((show (33 : Int32) = nI 33 from rfl)) (by decide) (by first | decide | omega) ?_
  refine wq_bipush q221_4 ?_
  refine wq_icmp_ne q221_6 (fun c6 => ?_) (fun c6 => ?_)
  · rw [e33, show (60 : Int32) = nI 60 from rfl, nI_eq (by omega) (by omega)] at c6
    rw [← upC_self hi r rfl]
    refine c_dk_end hr hn h26 (by omega) h33 (fun W' a1 a2 a3 a4 a5 a6 a7 a8 a9 a10 => hQ W' ⟨fun p hp => ⟨?_, ?_, ?_, a1 p hp⟩, a2, a3, a4, ?_, a5, ?_, fun i k hik hk => ?_, ?_, ?_, ?_⟩)
    · exact a10 _ (by omega) (by omega) (by omega) (by omega) (by omega) (by omega) (by omega)
    · exact a10 _ (by omega) (by omega) (by omega) (by omega) (by omega) (by omega) (by omega)
    · exact a10 _ (by omega) (by omega) (by omega) (by omega) (by omega) (by omega) (by omega)
    · exact a10 _ (by omega) (by omega) (by omega) (by omega) (by omega) (by omega) (by omega)
    · rw [a6, show min (lg + 1) 60 = lg + 1 by omega]
    · rw [if_neg c6]
      exact a10 _ (by omega) (by omega) (by omega) (by omega) (by omega) (by omega) (by omega)
    · rw [show min (lg + 1) 60 - 1 = lg by omega]
      exact a7
    · rw [show min (lg + 1) 60 - 1 = lg by omega]
      exact a8
    · rw [show min (lg + 1) 60 - 1 = lg by omega]
      exact a9
  · rw [e33, show (60 : Int32) = nI 60 from rfl, nI_eq (by omega) (by omega)] at c6
    subst c6
    refine wq_iconst q221_9 ?_
    refine wq_istore_n (ls' := [_, _, _, _]) q221_10 rfl ?_
    rw [← upC_self hi r rfl]
    refine c_dk_shift (W := hi r) hr (fun Z _ z1 z2 => ?_) 177 1 _ (by omega) (by omega) (fun _ _ => rfl) (fun j j1 j2 => by omega) (fun _ _ => rfl)
    obtain ⟨hs1, -⟩ := hr.sh (upC hi r Z) hl f dr t
    have eZ : hI (HP (upC hi r Z) hl f dr t) r 33 = nI 60 := by
      show upC hi r Z r 33 = _
      rw [upC_s, z1 33 (by decide)]
      exact h33
    refine wq_aload_n q221_38 rfl ?_
    refine wq_bipush q221_39 ?_
    refine wq_dup2 q221_41 rfl rfl ?_
    refine aI q221_42 (by first | exact hs1 | rfl) ((show (33 : Int32) = nI 33 from rfl)) (by decide) (by first | decide | omega) ?_
    refine wq_iconst q221_43 ?_
    refine wq_isub q221_44 ?_
    refine sI q221_45 (by first | exact hs1 | rfl) ((show (33 : Int32) = nI 33 from rfl)) (by decide) (by first | decide | omega) (by first | exact hs1 | rfl) ?_
    rw [hpS, up2_C, upC_s, upC_C, eZ, show nI 60 - 1 = nI 59 from rfl]
    have y1 : ∀ j, j ≠ 33 → va_up Z 33 (nI 59) j = Z j := fun j hj => vu_o _ _ hj
    refine c_dk_end (lg := 59) hr hn h26 (by omega) (vu_s _ _ _) (fun W' a1 a2 a3 a4 a5 a6 a7 a8 a9 a10 => hQ W' ⟨fun p hp => ⟨?_, ?_, ?_, a1 p hp⟩, a2, a3, a4, ?_, ?_, a6, fun i k hik hk => ?_, ?_, ?_, ?_⟩)
    · rw [a10 _ (by omega) (by omega) (by omega) (by omega) (by omega) (by omega) (by omega), y1 _ (by omega), z1 _ (by omega)]
    · rw [a10 _ (by omega) (by omega) (by omega) (by omega) (by omega) (by omega) (by omega), y1 _ (by omega), z1 _ (by omega)]
    · rw [a10 _ (by omega) (by omega) (by omega) (by omega) (by omega) (by omega) (by omega), y1 _ (by omega), z1 _ (by omega)]
    · rw [a10 _ (by omega) (by omega) (by omega) (by omega) (by omega) (by omega) (by omega), y1 _ (by omega), z1 _ (by omega)]
    · rw [a5, y1 _ (by omega), z1 _ (by omega)]
    · have hi58 : i + 1 < 60 := by omega
      rw [a10 _ (by omega) (by omega) (by omega) (by omega) (by omega) (by omega) (by omega), y1 _ (by omega), z2 _ (by omega) (by omega), if_pos rfl]
      rw [show 34 + 3 * i + k + 3 = 34 + 3 * (i + 1) + k by omega]
    · exact a7.trans ((y1 _ (by omega)).trans (z1 _ (by omega)))
    · exact a8.trans ((y1 _ (by omega)).trans (z1 _ (by omega)))
    · exact a9.trans ((y1 _ (by omega)).trans (z1 _ (by omega)))
/-- a row is copied -/
def Cok (r r' : Nat) : Prop := (r = 71 ∧ r' = 72) ∨ (r = 71 ∧ r' = 78) ∨ (r = 78 ∧ r' = 71)
theorem Cok.sh {r r' : Nat} (h : Cok r r') (hi : Nat → Nat → Int32) (hl : Nat → Nat → Int64) (f dr t : Nat) : (hS (HP hi hl f dr t))[r]? = some (100, 214) ∧ (hS (HP hi hl f dr t))[r']? = some (100, 214) ∧ r ≠ r' := by
  rcases h with ⟨rfl, rfl⟩ | ⟨rfl, rfl⟩ | ⟨rfl, rfl⟩ <;> exact ⟨rfl, rfl, by decide⟩
theorem c_rcopy_loop {r' N : Nat} (hr : Cok r r') (hN : N ≤ 214) (hQ : ∀ Z, (∀ j, j < N → Z j = hi r j) → Q none (HP (upC hi r' Z) hl f dr t)) : ∀ (m k : Nat) (Z : Nat → Int32), k + m = N → (∀ j, j < k → Z j = hi r j) →
    wq G (0, 0) d 208 12 [some (.ref r), some (.ref r'), some (.int (nI N)), some (.int (nI k))] [] (0, 0) (HP (upC hi r' Z) hl f dr t) Q := by
  intro m
  induction m with
  | zero =>
    intro k Z hm hZ
    obtain rfl : k = N := by omega
    refine wq_iload_n q208_12 rfl ?_
    refine wq_iload_n q208_13 rfl ?_
    refine wq_icmp_ge q208_14 (fun c14 => ?_) (fun c14 => ?_)
    · refine rV q208_29 ?_
      exact hQ Z hZ
    · exact absurd (nI_le (Nat.le_refl _) (by omega)) c14
  | succ m ih =>
    intro k Z hm hZ
    obtain ⟨hs, hs2, hne⟩ := hr.sh (upC hi r' Z) hl f dr t
    have e : hI (HP (upC hi r' Z) hl f dr t) r k = hi r k := by show upC hi r' Z r k = _; rw [upC_o _ _ hne]
    refine wq_iload_n q208_12 rfl ?_
    refine wq_iload_n q208_13 rfl ?_
    refine wq_icmp_ge q208_14 (fun c14 => ?_) (fun c14 => ?_)
    · rw [nI_leI (by omega) (by omega)] at c14
      omega
    · refine wq_aload_n q208_17 rfl ?_
      refine wq_iload_n q208_18 rfl ?_
      refine wq_aload_n q208_19 rfl ?_
      refine wq_iload_n q208_20 rfl ?_
      refine aI q208_21 (by first | exact hs | exact hs2 | rfl) (rfl) (by show k < 214; omega) (by first | decide | omega) ?_
      refine sI q208_22 (by first | exact hs | exact hs2 | rfl) (rfl) (by show k < 214; omega) (by first | decide | omega) (by first | exact hs | exact hs2 | rfl) ?_
      refine wq_iinc (ls' := [_, _, _, _]) q208_23 rfl rfl ?_
      refine wq_goto q208_26 ?_
      rw [e, hpS, up2_C, upC_s, upC_C, nI_1]
      refine ih (k + 1) _ (by omega) (fun j hj => ?_)
      by_cases h : j = k
      · rw [h, vu_s]
      · rw [vu_o _ _ h]
        exact hZ j (by omega)
theorem c_rcopy {r' lg : Nat} (hr : Cok r r') (hlg : lg ≤ 60) (h33 : hi r 33 = nI lg) (hQ : ∀ Z, (∀ j, j < 34 + 3 * lg → Z j = hi r j) → Q none (HP (upC hi r' Z) hl f dr t)) : Ct G (0, 0) d 208 [.ref r, .ref r'] (HP hi hl f dr t) Q := by
  obtain ⟨hs, hs2, hne⟩ := hr.sh hi hl f dr t
  have e33 : hI (HP hi hl f dr t) r 33 = nI lg := h33
  have e34 : (34 : Int32) + 3 * nI lg = nI (34 + 3 * lg) := by rw [show (3 : Int32) = nI 3 from rfl, pk_mul, show (34 : Int32) = nI 34 from rfl, nI_add]
  refine Ct_of (ls := [_, _, _, _]) m_208.1.2.2.1 (Nat.le_of_ble_eq_true rfl) rfl ?_
  refine wq_bipush q208_0 ?_
  refine wq_iconst q208_2 ?_
  refine wq_aload_n q208_3 rfl ?_
  refine wq_bipush q208_4 ?_
  refine aI q208_6 (by first | exact hs | rfl) ((show (33 : Int32) = nI 33 from rfl)) (by decide) (by first | decide | omega) ?_
  rw [e33]
  refine wq_imul q208_7 ?_
  refine wq_iadd q208_8 ?_
  rw [e34]
  refine wq_istore_n (ls' := [_, _, _, _]) q208_9 rfl ?_
  refine wq_iconst q208_10 ?_
  refine wq_istore_n (ls' := [_, _, _, _]) q208_11 rfl ?_
  rw [← upC_self hi r' rfl]
  exact c_rcopy_loop hr (by omega) hQ _ 0 _ (Nat.zero_add _) (fun j hj => by omega)
/-- an act is remembered: how many are kept, and the rows -/
def RmP (a : Nat) (U N U' : Nat → Int32) : Prop := (∀ i j, i + 1 < min (a + 1) 40 → j < 214 → U' (214 * i + j) = U (214 * (i + (if a = 40 then 1 else 0)) + j)) ∧ (∀ j, j < 214 → U' (214 * (min (a + 1) 40 - 1) + j) = N j)
theorem c_rm_shift {U : Nat → Int32} (K : ∀ Z x1, (∀ j, j < 8346 → Z j = U (j + 214)) → wq G (0, 0) d 228 40 [some (.ref 58), x1] [] (0, 0) (HP (upC hi 74 Z) hl f dr t) Q) : ∀ (m k : Nat) (Z : Nat → Int32), k + m = 8346 → (∀ j, j < k → Z j = U (j + 214)) → (∀ j, k ≤ j → Z j = U j) →
    wq G (0, 0) d 228 11 [some (.ref 58), some (.int (nI k))] [] (0, 0) (HP (upC hi 74 Z) hl f dr t) Q := by
  intro m
  induction m with
  | zero =>
    intro k Z hm hZ hZ2
    obtain rfl : k = 8346 := by omega
    refine wq_iload_n q228_11 rfl ?_
    refine wq_sipush q228_12 ?_
    refine wq_icmp_ge q228_15 (fun c15 => ?_) (fun c15 => ?_)
    · exact K Z _ hZ
    · exact absurd (by decide) c15
  | succ m ih =>
    intro k Z hm hZ hZ2
    refine wq_iload_n q228_11 rfl ?_
    refine wq_sipush q228_12 ?_
    refine wq_icmp_ge q228_15 (fun c15 => ?_) (fun c15 => ?_)
    · rw [show (8346 : Int32) = nI 8346 from rfl, nI_leI (by omega) (by omega)] at c15
      omega
    · refine wq_aload_n q228_18 rfl ?_
      refine wq_getR q228_19 rfl rfl rfl ?_
      refine wq_iload_n q228_22 rfl ?_
      refine wq_aload_n q228_23 rfl ?_
      refine wq_getR q228_24 rfl rfl rfl ?_
      refine wq_iload_n q228_27 rfl ?_
      refine wq_sipush q228_28 ?_
      refine wq_iadd q228_31 ?_
      refine aI q228_32 rfl ((by rw [show (214 : Int32) = nI 214 from rfl, nI_add])) (by show k + 214 < 8560; omega) (by first | decide | omega) ?_
      refine sI q228_33 rfl (rfl) (by show k < 8560; omega) (by first | decide | omega) rfl ?_
      refine wq_iinc (ls' := [_, _]) q228_34 rfl rfl ?_
      refine wq_goto q228_37 ?_
      rw [hpS, up2_C, upC_s, upC_C, nI_1]
      refine ih (k + 1) _ (by omega) (fun j hj => ?_) (fun j hj => ?_)
      · by_cases h : j = k
        · rw [h, vu_s]
          exact hZ2 _ (by omega)
        · rw [vu_o _ _ h]
          exact hZ j (by omega)
      · rw [vu_o _ _ (by omega)]
        exact hZ2 j (by omega)
theorem c_rm_put {a : Nat} {U : Nat → Int32} (ha : a < 40) (h38 : hi 58 38 = nI a) (K : ∀ Z x1, (∀ j, j < 214 * a → Z j = U j) → (∀ j, j < 214 → Z (214 * a + j) = hi 71 j) → wq G (0, 0) d 228 86 [some (.ref 58), x1] [] (0, 0) (HP (upC hi 74 Z) hl f dr t) Q) : ∀ (m k : Nat) (Z : Nat → Int32), k + m = 214 → (∀ j, j < 214 * a → Z j = U j) → (∀ j, j < k → Z (214 * a + j) = hi 71 j) →
    wq G (0, 0) d 228 52 [some (.ref 58), some (.int (nI k))] [] (0, 0) (HP (upC hi 74 Z) hl f dr t) Q := by
  have e38 : ∀ Z, hI (HP (upC hi 74 Z) hl f dr t) 58 38 = nI a := fun _ => h38
  intro m
  induction m with
  | zero =>
    intro k Z hm hZ hZ2
    obtain rfl : k = 214 := by omega
    refine wq_iload_n q228_52 rfl ?_
    refine wq_sipush q228_53 ?_
    refine wq_icmp_ge q228_56 (fun c56 => ?_) (fun c56 => ?_)
    · exact K Z _ hZ hZ2
    · exact absurd (by decide) c56
  | succ m ih =>
    intro k Z hm hZ hZ2
    refine wq_iload_n q228_52 rfl ?_
    refine wq_sipush q228_53 ?_
    refine wq_icmp_ge q228_56 (fun c56 => ?_) (fun c56 => ?_)
    · rw [show (214 : Int32) = nI 214 from rfl, nI_leI (by omega) (by omega)] at c56
      omega
    · refine wq_aload_n q228_59 rfl ?_
      refine wq_getR q228_60 rfl rfl rfl ?_
      refine wq_sipush q228_63 ?_
      refine wq_aload_n q228_66 rfl ?_
      refine wq_getI q228_67 rfl rfl ?_
      rw [e38]
      refine wq_imul q228_70 ?_
      refine wq_iload_n q228_71 rfl ?_
      refine wq_iadd q228_72 ?_
      refine wq_aload_n q228_73 rfl ?_
      refine wq_getR q228_74 rfl rfl rfl ?_
      refine wq_iload_n q228_77 rfl ?_
      refine aI q228_78 rfl (rfl) (by show k < 214; omega) (by first | decide | omega) ?_
      refine sI q228_79 rfl ((by rw [show (214 : Int32) = nI 214 from rfl, pk_mul, nI_add])) (by show 214 * a + k < 8560; omega) (by first | decide | omega) rfl ?_
      refine wq_iinc (ls' := [_, _]) q228_80 rfl rfl ?_
      refine wq_goto q228_83 ?_
      rw [hpS, up2_C, upC_s, upC_C, nI_1]
      refine ih (k + 1) _ (by omega) (fun j hj => ?_) (fun j hj => ?_)
      · rw [vu_o _ _ (by omega)]
        exact hZ j hj
      · by_cases h : j = k
        · rw [h, vu_s]
          rfl
        · rw [vu_o _ _ (by omega)]
          exact hZ2 j (by omega)
theorem c_remember {a : Nat} (ha : a ≤ 40) (h38 : hi 58 38 = nI a) (hQ : ∀ U', RmP a (hi 74) (hi 71) U' → Q none (HP (upC (up2 hi 58 38 (nI (min (a + 1) 40))) 74 U') hl f dr t)) : Ct G (0, 0) d 228 [.ref 58] (HP hi hl f dr t) Q := by
  have e38 : hI (HP hi hl f dr t) 58 38 = nI a := h38
  have fin : ∀ (hi2 : Nat → Nat → Int32) (Z : Nat → Int32) (x1 : Option Value) (b : Nat), b < 40 → hi2 58 38 = nI b → Q none (HP (upC (up2 hi2 58 38 (nI (b + 1))) 74 Z) hl f dr t) → wq G (0, 0) d 228 86 [some (.ref 58), x1] [] (0, 0) (HP (upC hi2 74 Z) hl f dr t) Q := by
    intro hi2 Z x1 b hb h2 hq
    have e2 : hI (HP (upC hi2 74 Z) hl f dr t) 58 38 = nI b := h2
    refine wq_aload_n q228_86 rfl ?_
    refine wq_dup q228_87 rfl ?_
    refine wq_getI q228_88 rfl rfl ?_
    refine wq_iconst q228_91 ?_
    refine wq_iadd q228_92 ?_
    refine wq_putI q228_93 rfl rfl rfl rfl ?_
    rw [e2, nI_1, hpS]
    refine rV q228_96 ?_
    rw [up2_C (upC hi2 74 Z), upC_o _ _ (show (58 : Nat) ≠ 74 by decide), upC_comm _ _ _ (by decide), ← up2_C]
    exact hq
  refine Ct_of (ls := [_, _]) m_228.1.2.2.1 (Nat.le_of_ble_eq_true rfl) rfl ?_
  refine wq_aload_n q228_0 rfl ?_
  refine wq_getI q228_1 rfl rfl ?_
  refine wq_bipush q228_4 ?_
  refine wq_icmp_ne q228_6 (fun c6 => ?_) (fun c6 => ?_)
  · rw [e38, show (40 : Int32) = nI 40 from rfl, nI_eq (by omega) (by omega)] at c6
    refine wq_iconst q228_50 ?_
    refine wq_istore_n (ls' := [_, _]) q228_51 rfl ?_
    rw [← upC_self hi 74 rfl]
    refine c_rm_put (U := hi 74) (a := a) (by omega) h38 (fun Z x1 z1 z2 => fin hi Z x1 a (by omega) h38 ?_) 214 0 _ (by omega) (fun _ _ => rfl) (fun j hj => by omega)
    have hq := hQ Z ⟨fun i j hi2 hj => by rw [if_neg c6]; exact z1 _ (by omega), fun j hj => by rw [show min (a + 1) 40 - 1 = a by omega]; exact z2 j hj⟩
    rw [show min (a + 1) 40 = a + 1 by omega] at hq
    exact hq
  · rw [e38, show (40 : Int32) = nI 40 from rfl, nI_eq (by omega) (by omega)] at c6
    subst c6
    refine wq_iconst q228_9 ?_
    refine wq_istore_n (ls' := [_, _]) q228_10 rfl ?_
    rw [← upC_self hi 74 rfl]
    refine c_rm_shift (U := hi 74) (fun Z x1 z1 => ?_) 8346 0 _ (by omega) (fun j hj => by omega) (fun _ _ => rfl)
    have e40 : hI (HP (upC hi 74 Z) hl f dr t) 58 38 = nI 40 := h38
    refine wq_aload_n q228_40 rfl ?_
    refine wq_dup q228_41 rfl ?_
    refine wq_getI q228_42 rfl rfl ?_
    refine wq_iconst q228_45 ?_
    refine wq_isub q228_46 ?_
    refine wq_putI q228_47 rfl rfl rfl rfl ?_
    rw [e40, show nI 40 - 1 = nI 39 from rfl, hpS]
    refine wq_iconst q228_50 ?_
    refine wq_istore_n (ls' := [_, _]) q228_51 rfl ?_
    rw [up2_C (upC hi 74 Z), upC_o _ _ (show (58 : Nat) ≠ 74 by decide), upC_comm _ _ _ (by decide), ← up2_C]
    refine c_rm_put (U := Z) (a := 39) (by omega) rfl (fun Z' x1 z2 z3 => fin (up2 hi 58 38 (nI 39)) Z' x1 39 (by omega) rfl ?_) 214 0 _ (by omega) (fun _ _ => rfl) (fun j hj => by omega)
    rw [up2_uu]
    refine hQ Z' ⟨fun i j hi2 hj => ?_, fun j hj => ?_⟩
    · rw [z2 _ (by omega), z1 _ (by omega), if_pos rfl, show 214 * i + j + 214 = 214 * (i + 1) + j by omega]
    · exact z3 j hj
end REFKEEP
