/-! THE CLASS: faults, texts -/
/-- a scene as it is opened, up to k -/
def opB (R : Nat → Int32) (br : Nat → Int32) (k : Nat) : Nat → Int32 := fun j => if j < k then nI j else if 7 ≤ j ∧ j < 7 + k then br (j - 7) else if j < 33 then 0 else R j
theorem opB_up {R br : Nat → Int32} {k : Nat} (hk : k < 7) : va_up (va_up (opB R br k) k (nI k)) (7 + k) (br k) = opB R br (k + 1) := by
  funext j
  unfold opB
  by_cases h1 : j = 7 + k
  · subst h1
    rw [vu_s, if_neg (by omega), if_pos (by omega), show 7 + k - 7 = k by omega]
  · rw [vu_o _ _ h1]
    by_cases h2 : j = k
    · subst h2
      rw [vu_s, if_pos (by omega)]
    · rw [vu_o _ _ h2]
      by_cases h3 : j < k
      · rw [if_pos h3, if_pos (by omega)]
      · rw [if_neg h3, if_neg (show ¬ j < k + 1 by omega)]
        by_cases h4 : 7 ≤ j ∧ j < 7 + k
        · rw [if_pos h4, if_pos (by omega)]
        · rw [if_neg h4, if_neg (show ¬ (7 ≤ j ∧ j < 7 + (k + 1)) by omega)]
theorem hpF (hi : Nat → Nat → Int32) (hl : Nat → Nat → Int64) (f dr t : Nat) : stR (stR (HP hi hl f dr t) 0 1 (some dr)) 0 2 (some f) = HP hi hl dr f t := by
  have e : up2 (up2 (HR f dr t) 0 1 (some dr)) 0 2 (some f) = HR dr f t := by
    funext a s
    by_cases ha : a = 0
    · subst ha
      rw [up2_s]
      by_cases hs : s = 2
      · subst hs
        rfl
      · rw [vu_o _ _ hs, up2_s]
        by_cases hs1 : s = 1
        · subst hs1
          rfl
        · rw [vu_o _ _ hs1]
          have g1 := gdne [some 1] [some dr, some 11, none, none, some 12, none, none, some 38, some 40, some 42, none, some 44, some 46, some 48, some 50, some 54, some 57] (some f) (some dr) none s hs1
          have g2 := gdne [some 1, some dr] [some 11, none, none, some 12, none, none, some 38, some 40, some 42, none, some 44, some 46, some 48, some 50, some 54, some 57] (some dr) (some f) none s hs
          exact g1.trans g2
    · rw [up2_o _ _ _ ha, up2_o _ _ _ ha]
      have h1 := gdne [] ((refT f dr t).drop 1) ((refT f dr t).getD 0 []) ((refT dr f t).getD 0 []) [] a ha
      show ((refT f dr t).getD a []).getD s none = ((refT dr f t).getD a []).getD s none
      have h2 : refT f dr t = [] ++ ((refT f dr t).getD 0 []) :: (refT f dr t).drop 1 := rfl
      have h3 : refT dr f t = [] ++ ((refT dr f t).getD 0 []) :: (refT f dr t).drop 1 := rfl
      rw [h3, ← h1, ← h2]
  show (false, shT, hi, hl, up2 (up2 (HR f dr t) 0 1 (some dr)) 0 2 (some f)) = (false, shT, hi, hl, HR dr f t)
  rw [e]
/-- what a new fort makes of the rest -/
def OpnR (fo n : Nat) (hi hi' : Nat → Nat → Int32) : Prop := (∀ j, j < 33 → hi' 39 j = opB (fun _ => 0) (fun i => hi (fo + 2) (i * 5 + 4)) n j) ∧ hi' 48 1 = hi 48 1 ∧ hi' 48 2 = 0 ∧ (∀ j, j < 7 → hi' 55 j = 0 ∧ hi' 56 j = 0) ∧ hi' 54 2 = 0 ∧ hi' 57 2 = 0 ∧ hi' 0 12 = 0 ∧ (∀ k, k ≠ 12 → hi' 0 k = hi 0 k) ∧ Same [0, 39, 48, 54, 55, 56, 57] hi hi'
section TEXT
variable {G : ph_G} {d f dr t L fo n : Nat} {hi : Nat → Nat → Int32} {hl : Nat → Nat → Int64} {Q : Option Value → ph_H → Prop}
theorem c_begin (hQ : Q none (HP (tpS hi 0 (-1)) hl f dr t)) : Ct G (0, 0) d 67 [.ref 1] (HP hi hl f dr t) Q := by
  refine Ct_of (ls := [_]) m_67.1.2.2.1 (Nat.le_of_ble_eq_true rfl) rfl ?_
  refine wq_aload_n q67_0 rfl ?_
  refine wq_iconst q67_1 ?_
  refine wq_putI q67_2 rfl rfl rfl rfl ?_
  refine wq_aload_n q67_5 rfl ?_
  refine wq_iconst q67_6 ?_
  refine wq_putI q67_7 rfl rfl rfl rfl ?_
  refine rV q67_10 ?_
  exact hQ
theorem c_fot0 (hfo : Fok dr) (hT : TK hi L)
    (hQ : ∀ p' S' hi2, pFortT (hi 2) L = .inr (p', S') → CS dr hi hi2 S' → Q (some (.int (-1))) (HP (tpS hi2 p' (-1)) hl f dr t))
    (hF : ∀ q p' hi2, pFortT (hi 2) L = .inl q → q ≤ L → Same [dr, dr + 1, dr + 2, dr + 3] hi hi2 → Q (some (.int (nI q))) (HP (tpS hi2 p' (nI q)) hl f dr t)) :
    Ct G (0, 0) (d + 8) 92 [.ref 0, .int 0] (HP hi hl f dr t) Q := by
  obtain ⟨f1, -⟩ := hfo.frt (tpS hi 0 (-1)) hl f dr t
  refine Ct_of (ls := [_, _]) m_92.1.2.2.1 (Nat.le_of_ble_eq_true rfl) rfl ?_
  refine wq_aload_n q92_0 rfl ?_
  refine wq_getR q92_1 rfl rfl rfl ?_
  refine cV (As := []) q92_4 m_67 rfl rfl rfl ⟨by decide, rfl⟩ rfl (c_begin ?_)
  refine wq_iload_n q92_7 rfl ?_
  refine wq_if_ne q92_8 (fun c8 => ?_) (fun c8 => ?_)
  · exact absurd rfl c8
  · refine wq_aload_n q92_11 rfl ?_
    refine wq_getR q92_12 (by first | exact f1 | rfl) rfl (by first | exact f1 | rfl) ?_
    refine wq_aload_n q92_15 rfl ?_
    refine wq_getR q92_16 (by first | exact f1 | rfl) rfl (by first | exact f1 | rfl) ?_
    refine cV (As := [_]) q92_19 m_13 rfl rfl (by first | exact f1 | rfl) ⟨by decide, rfl⟩ rfl (c_fread hfo hT (fun p' S' hi2 h1 h2 => ?_) (fun q p' hi2 h1 hp hq h2 => ?_))
    · refine wq_goto q92_22 ?_
      refine wq_aload_n q92_65 rfl ?_
      refine wq_getR q92_66 rfl rfl rfl ?_
      refine wq_getI q92_69 rfl rfl ?_
      refine rI q92_72 rfl ?_
      exact hQ p' S' hi2 h1 h2
    · refine wq_goto q92_22 ?_
      refine wq_aload_n q92_65 rfl ?_
      refine wq_getR q92_66 rfl rfl rfl ?_
      refine wq_getI q92_69 rfl rfl ?_
      refine rI q92_72 rfl ?_
      exact hF q p' hi2 h1 hq h2
theorem Lk_s {k : Nat} (hk : k < 5) (hi : Nat → Nat → Int32) (hl : Nat → Nat → Int64) (f dr t : Nat) : (hS (HP hi hl f dr t))[13 + 5 * k]? = some (5, 3) ∧ hR (HP hi hl f dr t) 11 k = some (13 + 5 * k) ∧ Lok (13 + 5 * k) := by
  have : k = 0 ∨ k = 1 ∨ k = 2 ∨ k = 3 ∨ k = 4 := by omega
  rcases this with rfl | rfl | rfl | rfl | rfl
  · exact ⟨rfl, rfl, Or.inl rfl⟩
  · exact ⟨rfl, rfl, Or.inr (Or.inl rfl)⟩
  · exact ⟨rfl, rfl, Or.inr (Or.inr (Or.inl rfl))⟩
  · exact ⟨rfl, rfl, Or.inr (Or.inr (Or.inr (Or.inl rfl)))⟩
  · exact ⟨rfl, rfl, Or.inr (Or.inr (Or.inr (Or.inr rfl)))⟩
theorem c_fot1 {lc : Nat} (hlc : lc < 5) (h04 : hi 0 4 = nI lc) (hT : TK hi L)
    (hQ : ∀ p' l sg', pLawT (hi 2) L = .inr (p', l) → sg' = apL (hi (13 + 5 * lc + 1)) 0 (lwS l) → (lwS l).length ≤ 241 → Q (some (.int (-1))) (HP (tpS (lwB hi (13 + 5 * lc) (lwS l).length sg') p' (-1)) hl f dr t))
    (hF : ∀ q p' sz' sg', pLawT (hi 2) L = .inl q → Q (some (.int (nI q))) (HP (tpS (lwB hi (13 + 5 * lc) sz' sg') p' (nI q)) hl f dr t)) :
    Ct G (0, 0) (d + 31) 92 [.ref 0, .int 1] (HP hi hl f dr t) Q := by
  obtain ⟨g1, g2, hk⟩ := Lk_s hlc (tpS hi 0 (-1)) hl f dr t
  have e4 : hI (HP (tpS hi 0 (-1)) hl f dr t) 0 4 = nI lc := h04
  refine Ct_of (ls := [_, _]) m_92.1.2.2.1 (Nat.le_of_ble_eq_true rfl) rfl ?_
  refine wq_aload_n q92_0 rfl ?_
  refine wq_getR q92_1 rfl rfl rfl ?_
  refine cV (As := []) q92_4 m_67 rfl rfl rfl ⟨by decide, rfl⟩ rfl (c_begin ?_)
  refine wq_iload_n q92_7 rfl ?_
  refine wq_if_ne q92_8 (fun c8 => ?_) (fun c8 => ?_)
  · refine wq_iload_n q92_25 rfl ?_
    refine wq_iconst q92_26 ?_
    refine wq_icmp_ne q92_27 (fun c27 => ?_) (fun c27 => ?_)
    · exact absurd rfl c27
    · refine wq_aload_n q92_30 rfl ?_
      refine wq_getR q92_31 (by first | exact g1 | exact g2 | rfl) rfl (by first | exact g1 | exact g2 | rfl) ?_
      refine wq_aload_n q92_34 rfl ?_
      refine wq_getI q92_35 (by first | exact g1 | exact g2 | rfl) rfl ?_
      refine aA q92_38 (by first | exact g1 | exact g2 | rfl) (by omega) (e4) (hlc) (by first | decide | omega) (by first | exact g1 | exact g2 | rfl) ?_
      refine wq_aload_n q92_39 rfl ?_
      refine wq_getR q92_40 (by first | exact g1 | exact g2 | rfl) rfl (by first | exact g1 | exact g2 | rfl) ?_
      refine cV (As := [_]) q92_43 m_34 rfl rfl (by first | exact g1 | exact g2 | rfl) ⟨by decide, rfl⟩ rfl (c_lread hk hT rfl (fun p' w' sz' sg' hr => ?_))
      obtain ⟨r1, r2, r3, -⟩ := hr
      have r3 := r3 rfl
      cases hps : pLawT (hi 2) L with
      | inl q =>
        rw [hps] at r3
        have r3 : w' = nI q := r3
        subst r3
        refine wq_goto q92_46 ?_
        refine wq_aload_n q92_65 rfl ?_
        refine wq_getR q92_66 rfl rfl rfl ?_
        refine wq_getI q92_69 rfl rfl ?_
        refine rI q92_72 rfl ?_
        exact hF q p' sz' sg' hps
      | inr z =>
        obtain ⟨p1, l⟩ := z
        rw [hps] at r3
        obtain ⟨a1, a2, a3, a4⟩ := (show p' = p1 ∧ w' = -1 ∧ sz' = 0 + (lwS l).length ∧ sg' = apL _ 0 (lwS l) from r3)
        subst a1 a2
        rw [Nat.zero_add] at a3
        subst a3
        refine wq_goto q92_46 ?_
        refine wq_aload_n q92_65 rfl ?_
        refine wq_getR q92_66 rfl rfl rfl ?_
        refine wq_getI q92_69 rfl rfl ?_
        refine rI q92_72 rfl ?_
        exact hQ _ l sg' hps a4 r2
  · exact absurd c8 (by decide)
theorem c_fot2 {k : Nat} (hk : k < 5) (h07 : hi 0 7 = nI k) (hT : TK hi L)
    (hQ : ∀ p' n P F, pPlanT (hi 2) L = .inr (p', (n, P)) → (∀ j, j < n * 3 → F j = P j) → Q (some (.int (-1))) (HP (tpS (plB hi k (nI n) F) p' (-1)) hl f dr t))
    (hF : ∀ q p' n F, pPlanT (hi 2) L = .inl q → Q (some (.int (nI q))) (HP (tpS (plB hi k n F) p' (nI q)) hl f dr t)) :
    Ct G (0, 0) (d + 7) 92 [.ref 0, .int 2] (HP hi hl f dr t) Q := by
  obtain ⟨g1, -, -, g2⟩ := Pk_s hk (tpS hi 0 (-1)) hl f dr t
  have e7 : hI (HP (tpS hi 0 (-1)) hl f dr t) 0 7 = nI k := h07
  refine Ct_of (ls := [_, _]) m_92.1.2.2.1 (Nat.le_of_ble_eq_true rfl) rfl ?_
  refine wq_aload_n q92_0 rfl ?_
  refine wq_getR q92_1 rfl rfl rfl ?_
  refine cV (As := []) q92_4 m_67 rfl rfl rfl ⟨by decide, rfl⟩ rfl (c_begin ?_)
  refine wq_iload_n q92_7 rfl ?_
  refine wq_if_ne q92_8 (fun c8 => ?_) (fun c8 => ?_)
  · refine wq_iload_n q92_25 rfl ?_
    refine wq_iconst q92_26 ?_
    refine wq_icmp_ne q92_27 (fun c27 => ?_) (fun c27 => ?_)
    · refine wq_aload_n q92_49 rfl ?_
      refine wq_getR q92_50 (by first | exact g1 | exact g2 | rfl) rfl (by first | exact g1 | exact g2 | rfl) ?_
      refine wq_aload_n q92_53 rfl ?_
      refine wq_getI q92_54 (by first | exact g1 | exact g2 | rfl) rfl ?_
      refine aA q92_57 (by first | exact g1 | exact g2 | rfl) (by omega) (e7) (hk) (by first | decide | omega) (by first | exact g1 | exact g2 | rfl) ?_
      refine wq_aload_n q92_58 rfl ?_
      refine wq_getR q92_59 (by first | exact g1 | exact g2 | rfl) rfl (by first | exact g1 | exact g2 | rfl) ?_
      refine cV (As := [_]) q92_62 m_50 rfl rfl (by first | exact g1 | exact g2 | rfl) ⟨by decide, rfl⟩ rfl (c_pread hk hT (fun p' n P F h1 h2 => ?_) (fun q p' n F h1 hp hq => ?_))
      · refine wq_aload_n q92_65 rfl ?_
        refine wq_getR q92_66 rfl rfl rfl ?_
        refine wq_getI q92_69 rfl rfl ?_
        refine rI q92_72 rfl ?_
        exact hQ p' n P F h1 h2
      · refine wq_aload_n q92_65 rfl ?_
        refine wq_getR q92_66 rfl rfl rfl ?_
        refine wq_getI q92_69 rfl rfl ?_
        refine rI q92_72 rfl ?_
        exact hF q p' n F h1
    · exact absurd c27 (by decide)
  · exact absurd c8 (by decide)
theorem c_opn_loop (hfo : Fok fo) (hn : n ≤ 7) (h3 : hi fo 3 = nI n) : ∀ (m k : Nat), k + m = n → Q none (HP (upC hi 39 (opB (hi 39) (fun i => hi (fo + 2) (i * 5 + 4)) n)) hl f dr t) →
    wq G (0, 0) (d + 1) 54 10 [some (.ref 38), some (.ref fo), some (.int (nI k))] [] (0, 0) (HP (upC hi 39 (opB (hi 39) (fun i => hi (fo + 2) (i * 5 + 4)) k)) hl f dr t) Q := by
  have n39 : fo ≠ 39 ∧ fo + 2 ≠ 39 := by rcases hfo with rfl | rfl <;> decide
  have e3 : ∀ F, hI (HP (upC hi 39 F) hl f dr t) fo 3 = nI n := fun F => by show upC hi 39 F fo 3 = _; rw [upC_o _ _ n39.1]; exact h3
  obtain ⟨f1, -⟩ := hfo.frt hi hl f dr t
  intro m
  induction m with
  | zero =>
    intro k hm hQ
    obtain rfl : k = n := by omega
    refine wq_iload_n q54_10 rfl ?_
    refine wq_aload_n q54_11 rfl ?_
    refine wq_getI q54_12 (by first | exact f1 | rfl) rfl ?_
    refine wq_icmp_ge q54_15 (fun c15 => ?_) (fun c15 => ?_)
    · refine rV q54_47 ?_
      exact hQ
    · rw [e3] at c15
      exact absurd (Int32.le_refl _) c15
  | succ m ih =>
    intro k hm hQ
    refine wq_iload_n q54_10 rfl ?_
    refine wq_aload_n q54_11 rfl ?_
    refine wq_getI q54_12 (by first | exact f1 | rfl) rfl ?_
    refine wq_icmp_ge q54_15 (fun c15 => ?_) (fun c15 => ?_)
    · rw [e3, nI_leI (by omega) (by omega)] at c15
      omega
    · refine wq_aload_n q54_18 rfl ?_
      refine wq_getR q54_19 rfl rfl rfl ?_
      refine wq_iconst q54_22 ?_
      refine wq_iload_n q54_23 rfl ?_
      refine wq_iadd q54_24 ?_
      refine wq_iload_n q54_25 rfl ?_
      refine sI q54_26 rfl ((by rw [show (0 : Int32) = nI 0 from rfl, nI_add, Nat.zero_add])) (by omega) (by first | decide | omega) rfl ?_
      rw [hpS, up2_C, upC_s, upC_C]
      refine wq_aload_n q54_27 rfl ?_
      refine wq_getR q54_28 (by first | exact f1 | rfl) rfl (by first | exact f1 | rfl) ?_
      refine wq_bipush q54_31 ?_
      refine wq_iload_n q54_33 rfl ?_
      refine wq_iadd q54_34 ?_
      refine wq_aload_n q54_35 rfl ?_
      refine wq_iload_n q54_36 rfl ?_
      refine cV (As := [_]) q54_37 m_24 rfl rfl (by first | exact f1 | rfl) ⟨by decide, rfl⟩ rfl (c_breadAtFirst (c := k) (by exact hfo.frt _ hl f dr t) (by omega) ?_)
      have e4 : ∀ F, hI (HP (upC hi 39 F) hl f dr t) (fo + 2) (k * 5 + 4) = hi (fo + 2) (k * 5 + 4) := fun F => by show upC hi 39 F (fo + 2) _ = _; rw [upC_o _ _ n39.2]
      rw [e4]
      refine sI q54_40 rfl (nI_add 7 _) (by omega) (by first | decide | omega) rfl ?_
      refine wq_iinc (ls' := [_, _, _]) q54_41 rfl rfl ?_
      refine wq_goto q54_44 ?_
      rw [hpS, up2_C, upC_s, upC_C, nI_1, opB_up (br := fun i => hi (fo + 2) (i * 5 + 4)) (by omega)]
      exact ih (k + 1) (by omega) hQ
theorem c_opn (hfo : Fok fo) (hn : n ≤ 7) (h3 : hi fo 3 = nI n) (hQ : Q none (HP (upC hi 39 (opB (hi 39) (fun i => hi (fo + 2) (i * 5 + 4)) n)) hl f dr t)) : Ct G (0, 0) (d + 1) 54 [.ref 38, .ref fo] (HP hi hl f dr t) Q := by
  refine Ct_of (ls := [_, _, _]) m_54.1.2.2.1 (Nat.le_of_ble_eq_true rfl) rfl ?_
  refine wq_aload_n q54_0 rfl ?_
  refine wq_getR q54_1 rfl rfl rfl ?_
  refine wq_iconst q54_4 ?_
  refine cS' (As := [_, _]) q54_5 m_322 rfl rfl rfl (c_fill (n := 33) rfl (by decide) rfl ?_)
  refine wq_iconst q54_8 ?_
  refine wq_istore_n (ls' := [_, _, _]) q54_9 rfl ?_
  rw [hpC]
  have e : (fun i => if i < 33 then 0 else hI (HP hi hl f dr t) 39 i) = opB (hi 39) (fun i => hi (fo + 2) (i * 5 + 4)) 0 := by
    funext j
    unfold opB
    rw [if_neg (show ¬ j < 0 by omega), if_neg (show ¬ (7 ≤ j ∧ j < 7 + 0) by omega)]
    rfl
  rw [e]
  exact c_opn_loop hfo hn h3 n 0 (by omega) hQ
theorem c_openFort (hfo : Fok dr) (hn : n ≤ 7) (h3 : hi dr 3 = nI n) (hQ : ∀ hi', OpnR dr n hi hi' → Q (some (.int (nI n))) (HP hi' hl dr f t)) : Ct G (0, 0) (d + 2) 93 [.ref 0] (HP hi hl f dr t) Q := by
  obtain ⟨f1, -⟩ := hfo.frt hi hl dr f t
  have hne : dr ≠ 0 ∧ dr ≠ 39 ∧ dr ≠ 48 ∧ dr ≠ 54 ∧ dr ≠ 55 ∧ dr ≠ 56 ∧ dr ≠ 57 := by rcases hfo with rfl | rfl <;> decide
  refine Ct_of (ls := [_, _]) m_93.1.2.2.1 (Nat.le_of_ble_eq_true rfl) rfl ?_
  refine wq_aload_n q93_0 rfl ?_
  refine wq_getR q93_1 rfl rfl rfl ?_
  refine wq_astore_n (ls' := [_, _]) q93_4 rfl ?_
  refine wq_aload_n q93_5 rfl ?_
  refine wq_aload_n q93_6 rfl ?_
  refine wq_getR q93_7 rfl rfl rfl ?_
  refine wq_putR q93_10 rfl rfl ?_
  refine wq_aload_n q93_13 rfl ?_
  refine wq_aload_n q93_14 rfl ?_
  refine wq_putR q93_15 rfl rfl ?_
  rw [hpF]
  refine wq_aload_n q93_18 rfl ?_
  refine wq_getR q93_19 (by first | exact f1 | rfl) rfl (by first | exact f1 | rfl) ?_
  refine wq_aload_n q93_22 rfl ?_
  refine wq_getR q93_23 (by first | exact f1 | rfl) rfl (by first | exact f1 | rfl) ?_
  refine cV (As := [_]) q93_26 m_54 rfl rfl (by first | exact f1 | rfl) ⟨by decide, rfl⟩ rfl (c_opn hfo hn h3 ?_)
  refine wq_aload_n q93_29 rfl ?_
  refine wq_getR q93_30 rfl rfl rfl ?_
  refine cV (As := []) q93_33 m_1 rfl rfl rfl ⟨by decide, rfl⟩ rfl (c_aforget ?_)
  refine wq_aload_n q93_36 rfl ?_
  refine wq_getR q93_37 rfl rfl rfl ?_
  refine cV (As := []) q93_40 m_81 rfl rfl rfl ⟨by decide, rfl⟩ rfl (c_wforget ?_)
  refine wq_aload_n q93_43 rfl ?_
  refine wq_getR q93_44 rfl rfl rfl ?_
  refine cV (As := []) q93_47 m_5 rfl rfl rfl ⟨by decide, rfl⟩ rfl (c_cforget ?_)
  refine wq_aload_n q93_50 rfl ?_
  refine wq_iconst q93_51 ?_
  refine wq_putI q93_52 rfl rfl rfl rfl ?_
  rw [hpS]
  have e3 : hI (HP (up2 (up2 (up2 (upC (upC (up2 (upC hi 39 (opB (hi 39) (fun i => hi (dr + 2) (i * 5 + 4)) n)) 48 2 0) 55 (fun i => if i < 7 then 0 else up2 (upC hi 39 (opB (hi 39) (fun i => hi (dr + 2) (i * 5 + 4)) n)) 48 2 0 55 i)) 56 (fun i => if i < 7 then 0 else up2 (upC hi 39 (opB (hi 39) (fun i => hi (dr + 2) (i * 5 + 4)) n)) 48 2 0 56 i)) 54 2 0) 57 2 0) 0 12 0) hl dr f t) dr 3 = nI n := by
    show up2 (up2 (up2 (upC (upC (up2 (upC hi 39 _) 48 2 0) 55 _) 56 _) 54 2 0) 57 2 0) 0 12 0 dr 3 = _
    rw [up2_o _ _ _ hne.1, up2_o _ _ _ hne.2.2.2.2.2.2, up2_o _ _ _ hne.2.2.2.1, upC_o _ _ hne.2.2.2.2.2.1, upC_o _ _ hne.2.2.2.2.1, up2_o _ _ _ hne.2.2.1, upC_o _ _ hne.2.1]
    exact h3
  refine wq_aload_n q93_55 rfl ?_
  refine wq_getR q93_56 (by first | exact f1 | rfl) rfl (by first | exact f1 | rfl) ?_
  refine wq_getI q93_59 (by first | exact f1 | rfl) rfl ?_
  refine rI q93_62 rfl ?_
  rw [e3]
  refine hQ _ ⟨fun j hj => ?_, rfl, rfl, fun j hj => ⟨if_pos hj, if_pos hj⟩, rfl, rfl, rfl, fun k hk => ?_, fun a ha => ?_⟩
  · show opB (hi 39) (fun i => hi (dr + 2) (i * 5 + 4)) n j = _
    unfold opB
    rw [if_pos hj, if_pos hj]
  · rw [up2_s, vu_o _ _ hk]
    rfl
  · simp only [List.mem_cons, List.not_mem_nil, or_false, not_or] at ha
    rw [up2_o _ _ _ ha.1, up2_o _ _ _ ha.2.2.2.2.2.2, up2_o _ _ _ ha.2.2.2.1, upC_o _ _ ha.2.2.2.2.2.1, upC_o _ _ ha.2.2.2.2.1, up2_o _ _ _ ha.2.2.1, upC_o _ _ ha.2.1]
theorem c_fault_no {x : Int32} (hx : inB x 3 = false) (hQ : Q (some (.int (-2))) (HP hi hl f dr t)) : Ct G (0, 0) (d + 32) 89 [.ref 0, .int x] (HP hi hl f dr t) Q := by
  refine Ct_of (ls := [_, _]) m_89.1.2.2.1 (Nat.le_of_ble_eq_true rfl) rfl ?_
  refine wq_iload_n q89_0 rfl ?_
  refine cS' (As := [_]) q89_1 m_91 rfl rfl rfl (c_isSort ?_)
  refine wq_if_eq q89_4 (fun c4 => ?_) (fun c4 => ?_)
  · refine wq_bipush q89_15 ?_
    refine rI q89_17 rfl ?_
    exact hQ
  · rw [hx] at c4
    exact absurd rfl c4
theorem c_fault_of {x : Int32} (hx : inB x 3 = true) (hc : ∀ Q' : Option Value → ph_H → Prop, (∀ r h, Q (some (.int r)) h → Q' (some (.int r)) h) → Ct G (0, 0) (d + 31) 92 [.ref 0, .int x] (HP hi hl f dr t) Q') : Ct G (0, 0) (d + 32) 89 [.ref 0, .int x] (HP hi hl f dr t) Q := by
  refine Ct_of (ls := [_, _]) m_89.1.2.2.1 (Nat.le_of_ble_eq_true rfl) rfl ?_
  refine wq_iload_n q89_0 rfl ?_
  refine cS' (As := [_]) q89_1 m_91 rfl rfl rfl (c_isSort ?_)
  refine wq_if_eq q89_4 (fun c4 => ?_) (fun c4 => ?_)
  · rw [hx] at c4
    exact absurd c4 (by decide)
  · refine wq_aload_n q89_7 rfl ?_
    refine wq_iload_n q89_8 rfl ?_
    refine cV (As := [_]) q89_9 m_92 rfl rfl rfl ⟨by decide, rfl⟩ rfl (hc _ (fun r h hq => ?_))
    refine wq_goto q89_12 ?_
    refine rI q89_17 rfl ?_
    exact hq
theorem c_text_no {x : Int32} (hx : inB x 3 = false) (hQ : Q (some (.int (-1))) (HP hi hl f dr t)) : Ct G (0, 0) (d + 32) 90 [.ref 0, .int x] (HP hi hl f dr t) Q := by
  refine Ct_of (ls := [_, _, _]) m_90.1.2.2.1 (Nat.le_of_ble_eq_true rfl) rfl ?_
  refine wq_iload_n q90_0 rfl ?_
  refine cS' (As := [_]) q90_1 m_91 rfl rfl rfl (c_isSort ?_)
  refine wq_if_eq q90_4 (fun c4 => ?_) (fun c4 => ?_)
  · refine wq_iconst q90_16 ?_
    refine rI q90_17 rfl ?_
    exact hQ
  · rw [hx] at c4
    exact absurd rfl c4
/-- a fort's text -/
theorem c_text0 (hfo : Fok dr) (hT : TK hi L)
    (h1 : ∀ p' S' hi2 hi', pFortT (hi 2) L = .inr (p', S') → CS dr hi hi2 S' → OpnR dr S'.2.1.1 (up2 (tpS hi2 p' (-1)) 1 1 0) hi' → Q (some (.int (nI S'.2.1.1))) (HP hi' hl dr f t))
    (h0 : ∀ q p' hi2, pFortT (hi 2) L = .inl q → Same [dr, dr + 1, dr + 2, dr + 3] hi hi2 → Q (some (.int (-1))) (HP (tpS hi2 p' (nI q)) hl f dr t)) :
    Ct G (0, 0) (d + 32) 90 [.ref 0, .int 0] (HP hi hl f dr t) Q := by
  have hLm := hT.2.1
  have hok := pFortT_ok (b := hi 2) (L := L)
  have hne : dr ≠ 1 := by rcases hfo with rfl | rfl <;> decide
  refine Ct_of (ls := [_, _, _]) m_90.1.2.2.1 (Nat.le_of_ble_eq_true rfl) rfl ?_
  refine wq_iload_n q90_0 rfl ?_
  refine cS' (As := [_]) q90_1 m_91 rfl rfl rfl (c_isSort ?_)
  refine wq_if_eq q90_4 (fun c4 => ?_) (fun c4 => ?_)
  · exact absurd c4 (by decide)
  · refine wq_aload_n q90_7 rfl ?_
    refine wq_iload_n q90_8 rfl ?_
    refine cV (As := [_]) q90_9 m_92 rfl rfl rfl ⟨by decide, rfl⟩ rfl (c_fot0 hfo hT (fun p' S' hi2 h hc => ?_) (fun q p' hi2 h hq hs => ?_))
    · have h7 := (hok.2 p' S' h).1.2.1
      refine wq_iconst q90_12 ?_
      refine wq_icmp_eq q90_13 (fun c13 => ?_) (fun c13 => ?_)
      · refine wq_iload_n q90_18 rfl ?_
        refine wq_if_ne q90_19 (fun c19 => ?_) (fun c19 => ?_)
        · exact absurd rfl c19
        · refine wq_aload_n q90_22 rfl ?_
          refine wq_getR q90_23 rfl rfl rfl ?_
          refine wq_iconst q90_26 ?_
          refine wq_putI q90_27 rfl rfl rfl rfl ?_
          rw [hpS]
          refine wq_aload_n q90_30 rfl ?_
          refine cV (As := []) q90_31 m_93 rfl rfl rfl ⟨by decide, rfl⟩ rfl (c_openFort hfo h7 (by rw [up2_o _ _ _ hne, tpS_o _ _ _ hne]; exact hc.1) (fun hi' ho => ?_))
          refine rI q90_34 rfl ?_
          exact h1 p' S' hi2 hi' h hc ho
      · exact absurd rfl c13
    · refine wq_iconst q90_12 ?_
      refine wq_icmp_eq q90_13 (fun c13 => ?_) (fun c13 => ?_)
      · exact absurd c13 (nI_nm1 (by omega))
      · refine wq_iconst q90_16 ?_
        refine rI q90_17 rfl ?_
        exact h0 q p' hi2 h hs
/-- a law's text -/
theorem c_text1 {lc : Nat} (hlc : lc < 5) (h04 : hi 0 4 = nI lc) (hT : TK hi L)
    (h1 : ∀ p' l sg', lc < 4 → pLawT (hi 2) L = .inr (p', l) → sg' = apL (hi (13 + 5 * lc + 1)) 0 (lwS l) → (lwS l).length ≤ 241 → Q (some (.int (nI lc))) (HP (up2 (up2 (tpS (lwB hi (13 + 5 * lc) (lwS l).length sg') p' (-1)) 1 1 0) 0 4 (nI (lc + 1))) hl f dr t))
    (h2 : ∀ p' sz' sg', lc = 4 → Q (some (.int (-1))) (HP (tpS (lwB hi (13 + 5 * lc) sz' sg') p' (-1)) hl f dr t))
    (h0 : ∀ q p' sz' sg', pLawT (hi 2) L = .inl q → Q (some (.int (-1))) (HP (tpS (lwB hi (13 + 5 * lc) sz' sg') p' (nI q)) hl f dr t)) :
    Ct G (0, 0) (d + 32) 90 [.ref 0, .int 1] (HP hi hl f dr t) Q := by
  have hLm := hT.2.1
  have hne : ∀ sz sg p' w, hI (HP (tpS (lwB hi (13 + 5 * lc) sz sg) p' w) hl f dr t) 0 4 = nI lc := fun sz sg p' w => by
    show lwB hi (13 + 5 * lc) sz sg 0 4 = _
    rw [lwB_o ⟨by omega, by omega⟩]
    exact h04
  have hok : ∀ q, pLawT (hi 2) L = .inl q → q ≤ L := by
    intro q h
    unfold pLawT pFin at h
    have h0 := pLaw_ok (b := hi 2) (L := L) 240 0 (by omega)
    cases hps : pLaw (hi 2) L 240 0 with
    | inl q1 =>
      rw [hps] at h
      cases h
      exact h0.1 _ hps
    | inr z =>
      obtain ⟨p1, l1⟩ := z
      rw [hps, pB_r] at h
      have hp1 := (h0.2 p1 l1 hps).1
      split at h
      · cases h
      · cases h
        exact (tpSkip_le hp1).2
  refine Ct_of (ls := [_, _, _]) m_90.1.2.2.1 (Nat.le_of_ble_eq_true rfl) rfl ?_
  refine wq_iload_n q90_0 rfl ?_
  refine cS' (As := [_]) q90_1 m_91 rfl rfl rfl (c_isSort ?_)
  refine wq_if_eq q90_4 (fun c4 => ?_) (fun c4 => ?_)
  · exact absurd c4 (by decide)
  · refine wq_aload_n q90_7 rfl ?_
    refine wq_iload_n q90_8 rfl ?_
    refine cV (As := [_]) q90_9 m_92 rfl rfl rfl ⟨by decide, rfl⟩ rfl (c_fot1 hlc h04 hT (fun p' l sg' h hsg hsz => ?_) (fun q p' sz' sg' h => ?_))
    · refine wq_iconst q90_12 ?_
      refine wq_icmp_eq q90_13 (fun c13 => ?_) (fun c13 => ?_)
      · refine wq_iload_n q90_18 rfl ?_
        refine wq_if_ne q90_19 (fun c19 => ?_) (fun c19 => ?_)
        · refine wq_iload_n q90_35 rfl ?_
          refine wq_iconst q90_36 ?_
          refine wq_icmp_ne q90_37 (fun c37 => ?_) (fun c37 => ?_)
          · exact absurd rfl c37
          · refine wq_aload_n q90_40 rfl ?_
            refine wq_getI q90_41 rfl rfl ?_
            refine wq_goto q90_44 ?_
            rw [hne]
            refine wq_istore_n (ls' := [_, _, _]) q90_51 rfl ?_
            refine wq_iload_n q90_52 rfl ?_
            refine wq_iconst q90_53 ?_
            refine wq_icmp_lt q90_54 (fun c54 => ?_) (fun c54 => ?_)
            · rw [show (4 : Int32) = nI 4 from rfl, nI_ltI (by omega) (by omega)] at c54
              refine wq_aload_n q90_59 rfl ?_
              refine wq_getR q90_60 rfl rfl rfl ?_
              refine wq_iconst q90_63 ?_
              refine wq_putI q90_64 rfl rfl rfl rfl ?_
              refine wq_iload_n q90_67 rfl ?_
              refine wq_iconst q90_68 ?_
              refine wq_icmp_ne q90_69 (fun c69 => ?_) (fun c69 => ?_)
              · exact absurd rfl c69
              · rw [hpS]
                have e4 : hI (HP (up2 (tpS (lwB hi (13 + 5 * lc) (lwS l).length sg') p' (-1)) 1 1 0) hl f dr t) 0 4 = nI lc := hne (lwS l).length sg' p' (-1)
                refine wq_aload_n q90_72 rfl ?_
                refine wq_dup q90_73 rfl ?_
                refine wq_getI q90_74 rfl rfl ?_
                refine wq_iconst q90_77 ?_
                refine wq_iadd q90_78 ?_
                refine wq_putI q90_79 rfl rfl rfl rfl ?_
                refine wq_goto q90_82 ?_
                refine wq_iload_n q90_95 rfl ?_
                refine rI q90_96 rfl ?_
                rw [e4, nI_1, hpS]
                exact h1 p' l sg' c54 h hsg hsz
            · rw [show (4 : Int32) = nI 4 from rfl, nI_ltI (by omega) (by omega)] at c54
              refine wq_iconst q90_57 ?_
              refine rI q90_58 rfl ?_
              exact h2 p' _ sg' (by omega)
        · exact absurd c19 (by decide)
      · exact absurd rfl c13
    · have hq := hok q h
      refine wq_iconst q90_12 ?_
      refine wq_icmp_eq q90_13 (fun c13 => ?_) (fun c13 => ?_)
      · exact absurd c13 (nI_nm1 (by omega))
      · refine wq_iconst q90_16 ?_
        refine rI q90_17 rfl ?_
        exact h0 q p' sz' sg' h
/-- a plan's text -/
theorem c_text2 {k : Nat} (hk : k < 5) (h07 : hi 0 7 = nI k) (hT : TK hi L)
    (h1 : ∀ p' n P F, k < 4 → pPlanT (hi 2) L = .inr (p', (n, P)) → (∀ j, j < n * 3 → F j = P j) → Q (some (.int (nI k))) (HP (up2 (up2 (tpS (plB hi k (nI n) F) p' (-1)) 1 1 0) 0 7 (nI (k + 1))) hl f dr t))
    (h2 : ∀ p' n F, k = 4 → Q (some (.int (-1))) (HP (tpS (plB hi k n F) p' (-1)) hl f dr t))
    (h0 : ∀ q p' n F, pPlanT (hi 2) L = .inl q → Q (some (.int (-1))) (HP (tpS (plB hi k n F) p' (nI q)) hl f dr t)) :
    Ct G (0, 0) (d + 32) 90 [.ref 0, .int 2] (HP hi hl f dr t) Q := by
  have hLm := hT.2.1
  have hne : ∀ n F p' w, hI (HP (tpS (plB hi k n F) p' w) hl f dr t) 0 7 = nI k := fun n F p' w => by
    show plB hi k n F 0 7 = _
    unfold plB
    rw [upC_o _ _ (by omega), up2_o _ _ _ (by omega)]
    exact h07
  have hok := (pPlanT_ok (b := hi 2) (L := L)).1
  refine Ct_of (ls := [_, _, _]) m_90.1.2.2.1 (Nat.le_of_ble_eq_true rfl) rfl ?_
  refine wq_iload_n q90_0 rfl ?_
  refine cS' (As := [_]) q90_1 m_91 rfl rfl rfl (c_isSort ?_)
  refine wq_if_eq q90_4 (fun c4 => ?_) (fun c4 => ?_)
  · exact absurd c4 (by decide)
  · refine wq_aload_n q90_7 rfl ?_
    refine wq_iload_n q90_8 rfl ?_
    refine cV (As := [_]) q90_9 m_92 rfl rfl rfl ⟨by decide, rfl⟩ rfl (c_fot2 hk h07 hT (fun p' n P F h hR => ?_) (fun q p' n F h => ?_))
    · refine wq_iconst q90_12 ?_
      refine wq_icmp_eq q90_13 (fun c13 => ?_) (fun c13 => ?_)
      · refine wq_iload_n q90_18 rfl ?_
        refine wq_if_ne q90_19 (fun c19 => ?_) (fun c19 => ?_)
        · refine wq_iload_n q90_35 rfl ?_
          refine wq_iconst q90_36 ?_
          refine wq_icmp_ne q90_37 (fun c37 => ?_) (fun c37 => ?_)
          · refine wq_aload_n q90_47 rfl ?_
            refine wq_getI q90_48 rfl rfl ?_
            rw [hne]
            refine wq_istore_n (ls' := [_, _, _]) q90_51 rfl ?_
            refine wq_iload_n q90_52 rfl ?_
            refine wq_iconst q90_53 ?_
            refine wq_icmp_lt q90_54 (fun c54 => ?_) (fun c54 => ?_)
            · rw [show (4 : Int32) = nI 4 from rfl, nI_ltI (by omega) (by omega)] at c54
              refine wq_aload_n q90_59 rfl ?_
              refine wq_getR q90_60 rfl rfl rfl ?_
              refine wq_iconst q90_63 ?_
              refine wq_putI q90_64 rfl rfl rfl rfl ?_
              refine wq_iload_n q90_67 rfl ?_
              refine wq_iconst q90_68 ?_
              refine wq_icmp_ne q90_69 (fun c69 => ?_) (fun c69 => ?_)
              · rw [hpS]
                have e4 : hI (HP (up2 (tpS (plB hi k (nI n) F) p' (-1)) 1 1 0) hl f dr t) 0 7 = nI k := hne (nI n) F p' (-1)
                refine wq_aload_n q90_85 rfl ?_
                refine wq_dup q90_86 rfl ?_
                refine wq_getI q90_87 rfl rfl ?_
                refine wq_iconst q90_90 ?_
                refine wq_iadd q90_91 ?_
                refine wq_putI q90_92 rfl rfl rfl rfl ?_
                refine wq_iload_n q90_95 rfl ?_
                refine rI q90_96 rfl ?_
                rw [e4, nI_1, hpS]
                exact h1 p' n P F c54 h hR
              · exact absurd c69 (by decide)
            · rw [show (4 : Int32) = nI 4 from rfl, nI_ltI (by omega) (by omega)] at c54
              refine wq_iconst q90_57 ?_
              refine rI q90_58 rfl ?_
              exact h2 p' _ F (by omega)
          · exact absurd c37 (by decide)
        · exact absurd c19 (by decide)
      · exact absurd rfl c13
    · have hq := hok q h
      refine wq_iconst q90_12 ?_
      refine wq_icmp_eq q90_13 (fun c13 => ?_) (fun c13 => ?_)
      · exact absurd c13 (nI_nm1 (by omega))
      · refine wq_iconst q90_16 ?_
        refine rI q90_17 rfl ?_
        exact h0 q p' n F h
end TEXT
