/-! THE LAW: what is made first; its loop -/
theorem sc_le {N I : Nat} (hN : N ≤ 3072) (hI : I ≤ 4000) : (Int32.ofNat N - 6 < nI I) ↔ N < I + 6 := by
  rw [Int32.lt_iff_toInt_lt, nI_toInt (by omega)]
  by_cases h : 6 ≤ N
  · have e : Int32.ofNat N - 6 = nI (N - 6) := by
      have e1 := nI_add (N - 6) 6
      rw [show N - 6 + 6 = N by omega] at e1
      show nI N - nI 6 = _
      rw [← e1, Int32.add_sub_cancel]
    rw [e, nI_toInt (by omega)]
    omega
  · have hc : N = 0 ∨ N = 1 ∨ N = 2 ∨ N = 3 ∨ N = 4 ∨ N = 5 := by omega
    have e : (Int32.ofNat N - 6).toInt = (N : Int) - 6 := by rcases hc with rfl | rfl | rfl | rfl | rfl | rfl <;> rfl
    rw [e]
    omega
section LOOP
variable {G : ph_G} {B : Nat × Nat} {d : Nat} {Q : Option Value → ph_H → Prop}
theorem law_loop (hN : gN G ≤ 3072) (hQ : ∀ h, Q (some (.int 1)) h) : ∀ (m I : Nat) (l5 l6 : Option Value) (u : Nat × Nat) (hi : Nat → Nat → Int32) (hl : Nat → Nat → Int64) (f dr t : Nat), I ≤ 3072 → gN G < I + 6 * m + 6 → u.1 + m ≤ B.1 → u.2 + 6 * m ≤ B.2 → J hi f dr → wq G B (d + 41) 326 23 (lwL I l5 l6) [] u (HP hi hl f dr t) Q := by
  intro m
  induction m with
  | zero =>
    intro I l5 l6 u hi hl f dr t hI hlt hu1 hu2 hJ
    refine wq_iload q326_23 rfl ?_
    refine wq_aload_n q326_25 rfl ?_
    refine wq_scrlen q326_26 ?_
    refine wq_bipush q326_27 ?_
    refine wq_isub q326_29 ?_
    refine wq_icmp_gt q326_30 (fun _ => ?_) (fun c => absurd ((sc_le hN (by omega)).mpr (by omega)) c)
    refine wq_iconst q326_1718 ?_
    exact wq_iret q326_1719 rfl ⟨by omega, by omega⟩ (hQ _)
  | succ m ih =>
    intro I l5 l6 u hi hl f dr t hI hlt hu1 hu2 hJ
    refine wq_iload q326_23 rfl ?_
    refine wq_aload_n q326_25 rfl ?_
    refine wq_scrlen q326_26 ?_
    refine wq_bipush q326_27 ?_
    refine wq_isub q326_29 ?_
    refine wq_icmp_gt q326_30 (fun _ => ?_) (fun c => ?_)
    · refine wq_iconst q326_1718 ?_
      exact wq_iret q326_1719 rfl ⟨by omega, by omega⟩ (hQ _)
    have hI : I + 6 ≤ gN G := by
      rcases Nat.lt_or_ge (gN G) (I + 6) with z | z
      · exact absurd ((sc_le hN (by omega)).mpr z) c
      · exact z
    have hu0 : u.1 ≤ B.1 ∧ u.2 ≤ B.2 := by omega
    have hu1 : u.1 + 1 ≤ B.1 ∧ u.2 + 6 ≤ B.2 := by omega
    have K : LK G B d I u Q := by
      intro l5 l6 u' hi hl f dr t h1 h2 hJ
      refine wq_iinc (ls' := lwL (I + 6) l5 l6) q326_1712 rfl (by rw [show nI I + 6 = nI (I + 6) from nI_add I 6]; rfl) ?_
      refine wq_goto q326_1715 ?_
      exact ih (I + 6) l5 l6 u' hi hl f dr t (by omega) (by omega) (by omega) (by omega) hJ
    obtain ⟨n, ev, wi, nx, kp, dy, sa, L, lc, pc, h⟩ := hJ
    refine wq_aload_n q326_33 rfl ?_
    refine wq_iload q326_34 rfl ?_
    refine wq_scr q326_36 (vp_in_nI (by omega) (by omega)) ?_
    refine wq_bipush q326_37 ?_
    refine wq_iand q326_39 ?_
    refine wq_switch q326_40 [252, 325, 350, 375, 400, 425, 493, 530, 567, 592, 617, 642, 655, 692, 729, 742, 767, 836, 849, 886, 935, 972, 997, 1034, 1071, 1096, 1109, 1134, 1199, 1212, 1249, 1286, 1311, 1324, 1349, 1374, 1411, 1424, 1449, 1462, 1487, 1500, 1513, 1526, 1551, 1612, 1661, 1674, 1687] (by decide) (fun _ => K _ _ _ _ _ _ _ _ (Nat.le_succ _) (Nat.le_add_right _ _) h.toJ) (fun i t' ht _ => ?_)
    match i, ht with
    | 0, ht => cases ht; exact lc_252 hN hI h hu0 K
    | 1, ht => cases ht; exact lc_325 hN hI h hu0 K
    | 2, ht => cases ht; exact lc_350 hN hI h hu0 K
    | 3, ht => cases ht; exact lc_375 hN hI h hu0 K
    | 4, ht => cases ht; exact lc_400 hN hI h hu0 K
    | 5, ht => cases ht; exact lc_425 hN hI h hu1 K
    | 6, ht => cases ht; exact lc_493 hN hI h hu0 K
    | 7, ht => cases ht; exact lc_530 hN hI h hu0 K
    | 8, ht => cases ht; exact lc_567 hN hI h hu0 K
    | 9, ht => cases ht; exact lc_592 hN hI h hu0 K
    | 10, ht => cases ht; exact lc_617 hN hI h hu0 K
    | 11, ht => cases ht; exact lc_642 hN hI h hu0 K
    | 12, ht => cases ht; exact lc_655 hN hI h hu0 K
    | 13, ht => cases ht; exact lc_692 hN hI h hu0 K
    | 14, ht => cases ht; exact lc_729 hN hI h hu0 K
    | 15, ht => cases ht; exact lc_742 hN hI h hu0 K
    | 16, ht => cases ht; exact lc_767 hN hI h hu0 K
    | 17, ht => cases ht; exact lc_836 hN hI h hu0 K
    | 18, ht => cases ht; exact lc_849 hN hI h hu0 K
    | 19, ht => cases ht; exact lc_886 hN hI h hu0 K
    | 20, ht => cases ht; exact lc_935 hN hI h hu0 K
    | 21, ht => cases ht; exact lc_972 hN hI h hu0 K
    | 22, ht => cases ht; exact lc_997 hN hI h hu0 K
    | 23, ht => cases ht; exact lc_1034 hN hI h hu0 K
    | 24, ht => cases ht; exact lc_1071 hN hI h hu0 K
    | 25, ht => cases ht; exact lc_1096 hN hI h hu0 K
    | 26, ht => cases ht; exact lc_1109 hN hI h hu0 K
    | 27, ht => cases ht; exact lc_1134 hN hI h hu0 K
    | 28, ht => cases ht; exact lc_1199 hN hI h hu0 K
    | 29, ht => cases ht; exact lc_1212 hN hI h hu0 K
    | 30, ht => cases ht; exact lc_1249 hN hI h hu0 K
    | 31, ht => cases ht; exact lc_1286 hN hI h hu0 K
    | 32, ht => cases ht; exact lc_1311 hN hI h hu0 K
    | 33, ht => cases ht; exact lc_1324 hN hI h hu0 K
    | 34, ht => cases ht; exact lc_1349 hN hI h hu0 K
    | 35, ht => cases ht; exact lc_1374 hN hI h hu0 K
    | 36, ht => cases ht; exact lc_1411 hN hI h hu0 K
    | 37, ht => cases ht; exact lc_1424 hN hI h hu0 K
    | 38, ht => cases ht; exact lc_1449 hN hI h hu0 K
    | 39, ht => cases ht; exact lc_1462 hN hI h hu0 K
    | 40, ht => cases ht; exact lc_1487 hN hI h hu0 K
    | 41, ht => cases ht; exact lc_1500 hN hI h hu0 K
    | 42, ht => cases ht; exact lc_1513 hN hI h hu0 K
    | 43, ht => cases ht; exact lc_1526 hN hI h hu0 K
    | 44, ht => cases ht; exact lc_1551 hN hI h hu0 K
    | 45, ht => cases ht; exact lc_1612 hN hI h hu0 K
    | 46, ht => cases ht; exact lc_1661 hN hI h hu0 K
    | 47, ht => cases ht; exact lc_1674 hN hI h hu0 K
    | 48, ht => cases ht; exact lc_1687 hN hI h hu0 K
    | i + 49, ht => simp at ht
end LOOP
