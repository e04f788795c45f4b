/-! THE CLASS: swap, price, buys, rests -/
def swI (g : Nat → Nat → Int32) (a : Nat) : Nat → Nat → Int32 × Int32 → Int32 × Int32
  | 0, _, x => x
  | m + 1, b, x => swI g a m (b + 1) (if x.2 < g a b then (10 * nI a + nI b, g a b) else x)
def swO (g : Nat → Nat → Int32) (n : Nat) : Nat → Nat → Int32 × Int32 → Int32 × Int32
  | 0, _, x => x
  | m + 1, a, x => swO g n m (a + 1) (swI g a (n - (a + 1)) (a + 1) x)
/-- what the teller gets if two change -/
def swV (hi : Nat → Nat → Int32) (f : Nat) (lw : Option Nat) (sz n ev wi : Nat) (a b : Nat) : Int32 := gnV hi f lw sz n ev wi (hi (f + 1) 3) (swR (hi 39) n (nI a) (nI b))
def prV (hi : Nat → Nat → Int32) (f : Nat) (lw : Option Nat) (sz n ev wi : Nat) (p : Nat) : Int32 := gnV hi f lw sz n ev wi (nI p) (hi 39)
section BUYS
variable {G : ph_G} {d a r n f dr t sz : Nat} {hi : Nat → Nat → Int32} {hl : Nat → Nat → Int64} {Q : Option Value → ph_H → Prop} {lw : Option Nat}
theorem CK.fl {S : List Nat} {hi' : Nat → Nat → Int32} {ev wi : Nat} (h : CK hi f lw sz n ev wi) (hs : Same S hi hi') (hS : ∀ b, b ∈ S → b ∈ (52 :: 41 :: scr0)) : FLs f lw hi hi' := by
  have hm : ∀ b, b ∈ (52 :: 41 :: scr0) → b ∈ (45 :: 48 :: 49 :: 52 :: 39 :: 41 :: 43 :: scr0) := by decide
  exact FLs_of h.1 h.2.1 hs (fun b hb => hm b (hS b hb))
theorem c_gainA {ev wi : Nat} {cost : Int32} {row : Nat → Int32} (hk : CK hi f lw sz n ev wi) (hsit : Sit row n)
    (hQ : ∀ hi', Same scr1 hi hi' → Q (some (.int (gnV hi f lw sz n ev wi cost row))) (HP hi' hl f dr t)) : Ct G (0, 0) (d + 6) 145 [.ref 0, .int cost] (HP (upC hi 41 row) hl f dr t) Q := by
  have hS1 : Same scr1 hi (upC hi 41 row) := upS _ (by decide)
  have hfl := hk.fl hS1 (by decide)
  have hk2 := hk.moved hS1 (by decide)
  refine c_gainApart hk2.1 hk2.2.1 hk2.2.2.1 hk2.2.2.2.1 (by rw [upC_s]; exact hsit) (fun hi' h' => ?_)
  rw [upC_s, gnV_congr hfl]
  exact hQ hi' (hS1.tr h')
theorem c_swap_in {ev wi A : Nat} {x1 : Int32} (hk : CK hi f lw sz n ev wi) (hA : A < n)
    (K : ∀ (x : Int32 × Int32) (hi' : Nat → Nat → Int32) (x5 x6 : Option Value), Same scr1 hi hi' → x = x → wq G (0, 0) (d + 8) 140 121 [some (.ref 0), some (.int x1), some (.int x.1), some (.int x.2), some (.int (nI A)), x5, x6] [] (0, 0) (HP hi' hl f dr t) Q → True) :
    ∀ (m b : Nat) (x : Int32 × Int32) (hi' : Nat → Nat → Int32) (x6 : Option Value), b + m = n → Same scr1 hi hi' →
    (∀ hi2 x5 x6, Same scr1 hi hi2 → wq G (0, 0) (d + 8) 140 121 [some (.ref 0), some (.int x1), some (.int (swI (swV hi f lw sz n ev wi) A m b x).1), some (.int (swI (swV hi f lw sz n ev wi) A m b x).2), some (.int (nI A)), x5, x6] [] (0, 0) (HP hi2 hl f dr t) Q) →
    wq G (0, 0) (d + 8) 140 43 [some (.ref 0), some (.int x1), some (.int x.1), some (.int x.2), some (.int (nI A)), some (.int (nI b)), x6] [] (0, 0) (HP hi' hl f dr t) Q := by
  have hk0 := hk
  obtain ⟨hf, hw, hlw, ⟨hn, hn1, hev, hwi, hc, hc4, hc0⟩, hsit⟩ := hk
  have hs : Sok 38 39 := Or.inl ⟨rfl, rfl⟩
  have hs2 : Sok 40 41 := Or.inr (Or.inl ⟨rfl, rfl⟩)
  have hne : ∀ b, (b = f ∨ b = f + 1 ∨ b = f + 2 ∨ b = f + 3) → b ≠ 41 := by
    rcases hf with rfl | rfl <;> rintro b (rfl | rfl | rfl | rfl) <;> decide
  intro m
  induction m with
  | zero =>
    intro b x hi' x6 hm hS hQ
    have hk2 := hk0.moved hS (by decide)
    obtain ⟨f1, -⟩ := hf.frt hi' hl f dr t
    have ec : hI (HP hi' hl f dr t) f 3 = nI n := hk2.2.2.2.1.2.2.2.2.1
    refine wq_iload q140_43 rfl ?_
    refine wq_aload_n q140_45 rfl ?_
    refine wq_getR q140_46 (by first | exact f1 | rfl) rfl (by first | exact f1 | rfl) ?_
    refine wq_getI q140_49 (by first | exact f1 | rfl) rfl ?_
    refine wq_icmp_ge q140_52 (fun c52 => ?_) (fun c52 => ?_)
    · exact hQ hi' _ _ hS
    · rw [ec, nI_leI (by omega) (by omega)] at c52
      omega
  | succ m ih =>
    intro b x hi' x6 hm hS hQ
    have hk2 := hk0.moved hS (by decide)
    have hfl := hk0.fl hS (by decide)
    obtain ⟨f1, -⟩ := hf.frt hi' hl f dr t
    have ec : hI (HP hi' hl f dr t) f 3 = nI n := hk2.2.2.2.1.2.2.2.2.1
    have e39 : hi' 39 = hi 39 := hS 39 (by decide)
    rw [swI] at hQ
    refine wq_iload q140_43 rfl ?_
    refine wq_aload_n q140_45 rfl ?_
    refine wq_getR q140_46 (by first | exact f1 | rfl) rfl (by first | exact f1 | rfl) ?_
    refine wq_getI q140_49 (by first | exact f1 | rfl) rfl ?_
    refine wq_icmp_ge q140_52 (fun c52 => ?_) (fun c52 => ?_)
    · rw [ec, nI_leI (by omega) (by omega)] at c52
      omega
    · refine wq_aload_n q140_55 rfl ?_
      refine wq_getR q140_56 rfl rfl rfl ?_
      refine wq_aload_n q140_59 rfl ?_
      refine wq_getR q140_60 rfl rfl rfl ?_
      refine cV (As := [_]) q140_63 m_55 rfl rfl rfl ⟨by decide, rfl⟩ rfl (c_scopy2 (hs2.scn _ _ _ _ _) (hs.scn _ _ _ _ _) ?_)
      rw [hpC]
      have ec2 : ∀ F, hI (HP (upC hi' 41 F) hl f dr t) f 3 = nI n := fun F => by show upC hi' 41 F f 3 = _; rw [upC_o _ _ (hne f (Or.inl rfl))]; exact ec
      refine wq_aload_n q140_66 rfl ?_
      refine wq_getR q140_67 (by first | exact f1 | rfl) rfl (by first | exact f1 | rfl) ?_
      refine wq_iload q140_70 rfl ?_
      refine wq_iload q140_72 rfl ?_
      refine wq_aload_n q140_74 rfl ?_
      refine wq_getR q140_75 (by first | exact f1 | rfl) rfl (by first | exact f1 | rfl) ?_
      refine wq_getI q140_78 (by first | exact f1 | rfl) rfl ?_
      rw [ec2]
      refine cV (As := [_, _, _]) q140_81 m_58 rfl rfl rfl ⟨by decide, rfl⟩ rfl (c_swapCells (hs2.scn _ _ _ _ _) hn hn1 ?_)
      have e1 : hI (HP (upC hi' 41 (hI (HP hi' hl f dr t) 39)) hl f dr t) 41 = hi 39 := by rw [← e39]; rfl
      rw [e1, hpC, upC_C]
      refine wq_aload_n q140_84 rfl ?_
      refine wq_aload_n q140_85 rfl ?_
      refine wq_getR q140_86 (by first | exact f1 | rfl) rfl (by first | exact f1 | rfl) ?_
      refine cV (As := []) q140_89 m_19 rfl rfl (by first | exact f1 | rfl) ⟨by decide, rfl⟩ rfl (c_cost (by exact hf.frt _ hl f dr t) ?_)
      have e3 : ∀ F, hI (HP (upC hi' 41 F) hl f dr t) (f + 1) 3 = hi (f + 1) 3 := fun F => by show upC hi' 41 F (f + 1) 3 = _; rw [upC_o _ _ (hne _ (Or.inr (Or.inl rfl))), hfl.2.1]
      rw [e3]
      refine cV (As := [_]) q140_92 m_145 rfl rfl rfl ⟨by decide, rfl⟩ rfl (c_gainA hk2 (hsit.sw (by omega) (by omega)) (fun hi2 h2 => ?_))
      rw [gnV_congr hfl]
      refine wq_istore (ls' := [_, _, _, _, _, _, _]) q140_95 rfl ?_
      refine wq_iload q140_97 rfl ?_
      refine wq_iload_n q140_99 rfl ?_
      refine wq_icmp_le q140_100 (fun c100 => ?_) (fun c100 => ?_)
      · rw [if_neg (show ¬ x.2 < swV hi f lw sz n ev wi A b from Int32.not_lt.mpr c100)] at hQ
        refine wq_iinc (ls' := [_, _, _, _, _, _, _]) q140_115 rfl rfl ?_
        refine wq_goto q140_118 ?_
        rw [nI_1]
        exact ih (b + 1) x hi2 _ (by omega) (hS.tr h2) hQ
      · rw [if_pos (show x.2 < swV hi f lw sz n ev wi A b from Int32.not_le.mp c100)] at hQ
        refine wq_bipush q140_103 ?_
        refine wq_iload q140_105 rfl ?_
        refine wq_imul q140_107 ?_
        refine wq_iload q140_108 rfl ?_
        refine wq_iadd q140_110 ?_
        refine wq_istore_n (ls' := [_, _, _, _, _, _, _]) q140_111 rfl ?_
        refine wq_iload q140_112 rfl ?_
        refine wq_istore_n (ls' := [_, _, _, _, _, _, _]) q140_114 rfl ?_
        refine wq_iinc (ls' := [_, _, _, _, _, _, _]) q140_115 rfl rfl ?_
        refine wq_goto q140_118 ?_
        rw [nI_1]
        exact ih (b + 1) (10 * nI A + nI b, swV hi f lw sz n ev wi A b) hi2 _ (by omega) (hS.tr h2) hQ
theorem c_swap_out {ev wi : Nat} {x1 : Int32} (hk : CK hi f lw sz n ev wi) :
    ∀ (m A : Nat) (x : Int32 × Int32) (hi' : Nat → Nat → Int32) (x5 x6 : Option Value), A + m = n → Same scr1 hi hi' →
    (∀ hi2, Same scr1 hi hi2 → Q (some (.int (if x1 = 0 then (swO (swV hi f lw sz n ev wi) n m A x).1 else (swO (swV hi f lw sz n ev wi) n m A x).2))) (HP hi2 hl f dr t)) →
    wq G (0, 0) (d + 8) 140 25 [some (.ref 0), some (.int x1), some (.int x.1), some (.int x.2), some (.int (nI A)), x5, x6] [] (0, 0) (HP hi' hl f dr t) Q := by
  have hk0 := hk
  obtain ⟨hf, hw, hlw, ⟨hn, hn1, hev, hwi, hc, hc4, hc0⟩, hsit⟩ := hk
  intro m
  induction m with
  | zero =>
    intro A x hi' x5 x6 hm hS hQ
    have hk2 := hk0.moved hS (by decide)
    obtain ⟨f1, -⟩ := hf.frt hi' hl f dr t
    have ec : hI (HP hi' hl f dr t) f 3 = nI n := hk2.2.2.2.1.2.2.2.2.1
    refine wq_iload q140_25 rfl ?_
    refine wq_aload_n q140_27 rfl ?_
    refine wq_getR q140_28 (by first | exact f1 | rfl) rfl (by first | exact f1 | rfl) ?_
    refine wq_getI q140_31 (by first | exact f1 | rfl) rfl ?_
    refine wq_icmp_ge q140_34 (fun c34 => ?_) (fun c34 => ?_)
    · refine wq_iload_n q140_127 rfl ?_
      refine wq_if_ne q140_128 (fun c128 => ?_) (fun c128 => ?_)
      · have := hQ hi' hS
        rw [if_neg c128] at this
        refine wq_iload_n q140_135 rfl ?_
        refine rI q140_136 rfl ?_
        exact this
      · have := hQ hi' hS
        rw [if_pos c128] at this
        refine wq_iload_n q140_131 rfl ?_
        refine wq_goto q140_132 ?_
        refine rI q140_136 rfl ?_
        exact this
    · rw [ec, nI_leI (by omega) (by omega)] at c34
      omega
  | succ m ih =>
    intro A x hi' x5 x6 hm hS hQ
    have hk2 := hk0.moved hS (by decide)
    obtain ⟨f1, -⟩ := hf.frt hi' hl f dr t
    have ec : hI (HP hi' hl f dr t) f 3 = nI n := hk2.2.2.2.1.2.2.2.2.1
    rw [swO] at hQ
    refine wq_iload q140_25 rfl ?_
    refine wq_aload_n q140_27 rfl ?_
    refine wq_getR q140_28 (by first | exact f1 | rfl) rfl (by first | exact f1 | rfl) ?_
    refine wq_getI q140_31 (by first | exact f1 | rfl) rfl ?_
    refine wq_icmp_ge q140_34 (fun c34 => ?_) (fun c34 => ?_)
    · rw [ec, nI_leI (by omega) (by omega)] at c34
      omega
    · refine wq_iload q140_37 rfl ?_
      refine wq_iconst q140_39 ?_
      refine wq_iadd q140_40 ?_
      refine wq_istore (ls' := [_, _, _, _, _, _, _]) q140_41 rfl ?_
      rw [nI_1]
      refine c_swap_in hk0 (by omega) (fun _ _ _ _ _ _ _ => trivial) (n - (A + 1)) (A + 1) x hi' _ (by omega) hS (fun hi2 y5 y6 h2 => ?_)
      refine wq_iinc (ls' := [_, _, _, _, _, _, _]) q140_121 rfl rfl ?_
      refine wq_goto q140_124 ?_
      rw [nI_1]
      exact ih (A + 1) _ hi2 _ _ (by omega) h2 hQ
theorem c_swap {ev wi : Nat} {x : Int32} (hk : CK hi f lw sz n ev wi) (h0 : ¬ (0 ≤ x ∧ x ≤ 1) → Q (some (.int (-1))) (HP hi hl f dr t))
    (h1 : 0 ≤ x → x ≤ 1 → ∀ hi2, Same scr1 hi hi2 → Q (some (.int (if x = 0 then (swO (swV hi f lw sz n ev wi) n n 0 (-1, -1)).1 else (swO (swV hi f lw sz n ev wi) n n 0 (-1, -1)).2))) (HP hi2 hl f dr t)) : Ct G (0, 0) (d + 8) 140 [.ref 0, .int x] (HP hi hl f dr t) Q := by
  have hc := hk.2.2.2.1.2.2.2.2.1
  have hn := hk.2.2.2.1.1
  have hn1 := hk.2.2.2.1.2.1
  refine Ct_of (ls := [_, _, _, _, _, _, _]) m_140.1.2.2.1 (Nat.le_of_ble_eq_true rfl) rfl ?_
  refine wq_aload_n q140_0 rfl ?_
  refine cV (As := []) q140_1 m_102 rfl rfl rfl ⟨by decide, rfl⟩ rfl (c_hasFort hk.1 ?_)
  refine wq_if_eq q140_4 (fun c4 => ?_) (fun c4 => ?_)
  · have c := p01 c4
    rw [hc] at c
    exact absurd (nI_lt (a := 0) (b := n) (by omega) (by omega)) c
  · refine wq_iload_n q140_7 rfl ?_
    refine wq_if_lt q140_8 (fun c8 => ?_) (fun c8 => ?_)
    · refine wq_iconst q140_16 ?_
      refine rI q140_17 rfl ?_
      exact h0 (fun z => absurd z.1 (Int32.not_le.mpr c8))
    · refine wq_iload_n q140_11 rfl ?_
      refine wq_iconst q140_12 ?_
      refine wq_icmp_le q140_13 (fun c13 => ?_) (fun c13 => ?_)
      · refine wq_iconst q140_18 ?_
        refine wq_istore_n (ls' := [_, _, _, _, _, _, _]) q140_19 rfl ?_
        refine wq_iconst q140_20 ?_
        refine wq_istore_n (ls' := [_, _, _, _, _, _, _]) q140_21 rfl ?_
        refine wq_iconst q140_22 ?_
        refine wq_istore (ls' := [_, _, _, _, _, _, _]) q140_23 rfl ?_
        exact c_swap_out hk n 0 (-1, -1) hi _ _ (by omega) Same.rf (fun hi2 h2 => h1 (Int32.not_lt.mp c8) c13 hi2 h2)
      · refine wq_iconst q140_16 ?_
        refine rI q140_17 rfl ?_
        exact h0 (fun z => c13 z.2)
theorem c_price_loop {ev wi : Nat} {x1 : Int32} (hk : CK hi f lw sz n ev wi) :
    ∀ (m p : Nat) (x : Int32 × Int32) (hi' : Nat → Nat → Int32) (x5 : Option Value), p + m = 10 → Same scr1 hi hi' →
    (∀ hi2, Same scr1 hi hi2 → Q (some (.int (if x1 = 0 then (bsR (prV hi f lw sz n ev wi) m p x).1 else (bsR (prV hi f lw sz n ev wi) m p x).2))) (HP hi2 hl f dr t)) →
    wq G (0, 0) (d + 8) 141 25 [some (.ref 0), some (.int x1), some (.int x.1), some (.int x.2), some (.int (nI p)), x5] [] (0, 0) (HP hi' hl f dr t) Q := by
  have hk0 := hk
  obtain ⟨hf, hw, hlw, ⟨hn, hn1, hev, hwi, hc, hc4, hc0⟩, hsit⟩ := hk
  have hs : Sok 38 39 := Or.inl ⟨rfl, rfl⟩
  have hs2 : Sok 40 41 := Or.inr (Or.inl ⟨rfl, rfl⟩)
  intro m
  induction m with
  | zero =>
    intro p x hi' x5 hm hS hQ
    refine wq_iload q141_25 rfl ?_
    refine wq_bipush q141_27 ?_
    refine wq_icmp_gt q141_29 (fun c29 => ?_) (fun c29 => ?_)
    · refine wq_iload_n q141_69 rfl ?_
      refine wq_if_ne q141_70 (fun c70 => ?_) (fun c70 => ?_)
      · have := hQ hi' hS
        rw [if_neg c70] at this
        refine wq_iload_n q141_77 rfl ?_
        refine rI q141_78 rfl ?_
        exact this
      · have := hQ hi' hS
        rw [if_pos c70] at this
        refine wq_iload_n q141_73 rfl ?_
        refine wq_goto q141_74 ?_
        refine rI q141_78 rfl ?_
        exact this
    · rw [show (9 : Int32) = nI 9 from rfl, nI_ltI (by omega) (by omega)] at c29
      omega
  | succ m ih =>
    intro p x hi' x5 hm hS hQ
    have hk2 := hk0.moved hS (by decide)
    have hfl := hk0.fl hS (by decide)
    have e39 : hI (HP hi' hl f dr t) 39 = hi 39 := hS 39 (by decide)
    rw [bsR] at hQ
    refine wq_iload q141_25 rfl ?_
    refine wq_bipush q141_27 ?_
    refine wq_icmp_gt q141_29 (fun c29 => ?_) (fun c29 => ?_)
    · rw [show (9 : Int32) = nI 9 from rfl, nI_ltI (by omega) (by omega)] at c29
      omega
    · refine wq_aload_n q141_32 rfl ?_
      refine wq_getR q141_33 rfl rfl rfl ?_
      refine wq_aload_n q141_36 rfl ?_
      refine wq_getR q141_37 rfl rfl rfl ?_
      refine cV (As := [_]) q141_40 m_55 rfl rfl rfl ⟨by decide, rfl⟩ rfl (c_scopy2 (hs2.scn _ _ _ _ _) (hs.scn _ _ _ _ _) ?_)
      rw [hpC, e39]
      refine wq_aload_n q141_43 rfl ?_
      refine wq_iload q141_44 rfl ?_
      refine cV (As := [_]) q141_46 m_145 rfl rfl rfl ⟨by decide, rfl⟩ rfl (c_gainA hk2 hsit (fun hi2 h2 => ?_))
      rw [gnV_congr hfl]
      refine wq_istore (ls' := [_, _, _, _, _, _]) q141_49 rfl ?_
      refine wq_iload q141_51 rfl ?_
      refine wq_iload_n q141_53 rfl ?_
      refine wq_icmp_le q141_54 (fun c54 => ?_) (fun c54 => ?_)
      · rw [if_neg (show ¬ x.2 < prV hi f lw sz n ev wi p from Int32.not_lt.mpr c54)] at hQ
        refine wq_iinc (ls' := [_, _, _, _, _, _]) q141_63 rfl rfl ?_
        refine wq_goto q141_66 ?_
        rw [nI_1]
        exact ih (p + 1) x hi2 _ (by omega) (hS.tr h2) hQ
      · rw [if_pos (show x.2 < prV hi f lw sz n ev wi p from Int32.not_le.mp c54)] at hQ
        refine wq_iload q141_57 rfl ?_
        refine wq_istore_n (ls' := [_, _, _, _, _, _]) q141_59 rfl ?_
        refine wq_iload q141_60 rfl ?_
        refine wq_istore_n (ls' := [_, _, _, _, _, _]) q141_62 rfl ?_
        refine wq_iinc (ls' := [_, _, _, _, _, _]) q141_63 rfl rfl ?_
        refine wq_goto q141_66 ?_
        rw [nI_1]
        exact ih (p + 1) (nI p, prV hi f lw sz n ev wi p) hi2 _ (by omega) (hS.tr h2) hQ
theorem c_price {ev wi : Nat} {x : Int32} (hk : CK hi f lw sz n ev wi) (h0 : ¬ (0 ≤ x ∧ x ≤ 1) → Q (some (.int (-1))) (HP hi hl f dr t))
    (h1 : 0 ≤ x → x ≤ 1 → ∀ hi2, Same scr1 hi hi2 → Q (some (.int (if x = 0 then (bsR (prV hi f lw sz n ev wi) 10 0 (-1, -1)).1 else (bsR (prV hi f lw sz n ev wi) 10 0 (-1, -1)).2))) (HP hi2 hl f dr t)) : Ct G (0, 0) (d + 8) 141 [.ref 0, .int x] (HP hi hl f dr t) Q := by
  have hc := hk.2.2.2.1.2.2.2.2.1
  have hn := hk.2.2.2.1.1
  have hn1 := hk.2.2.2.1.2.1
  refine Ct_of (ls := [_, _, _, _, _, _]) m_141.1.2.2.1 (Nat.le_of_ble_eq_true rfl) rfl ?_
  refine wq_aload_n q141_0 rfl ?_
  refine cV (As := []) q141_1 m_102 rfl rfl rfl ⟨by decide, rfl⟩ rfl (c_hasFort hk.1 ?_)
  refine wq_if_eq q141_4 (fun c4 => ?_) (fun c4 => ?_)
  · have c := p01 c4
    rw [hc] at c
    exact absurd (nI_lt (a := 0) (b := n) (by omega) (by omega)) c
  · refine wq_iload_n q141_7 rfl ?_
    refine wq_if_lt q141_8 (fun c8 => ?_) (fun c8 => ?_)
    · refine wq_iconst q141_16 ?_
      refine rI q141_17 rfl ?_
      exact h0 (fun z => absurd z.1 (Int32.not_le.mpr c8))
    · refine wq_iload_n q141_11 rfl ?_
      refine wq_iconst q141_12 ?_
      refine wq_icmp_le q141_13 (fun c13 => ?_) (fun c13 => ?_)
      · refine wq_iconst q141_18 ?_
        refine wq_istore_n (ls' := [_, _, _, _, _, _]) q141_19 rfl ?_
        refine wq_iconst q141_20 ?_
        refine wq_istore_n (ls' := [_, _, _, _, _, _]) q141_21 rfl ?_
        refine wq_iconst q141_22 ?_
        refine wq_istore (ls' := [_, _, _, _, _, _]) q141_23 rfl ?_
        exact c_price_loop hk 10 0 (-1, -1) hi _ (by omega) Same.rf (fun hi2 h2 => h1 (Int32.not_lt.mp c8) c13 hi2 h2)
      · refine wq_iconst q141_16 ?_
        refine rI q141_17 rfl ?_
        exact h0 (fun z => c13 z.2)
theorem heR_1 {bits : Int32} {v te : Nat} {cost : Int32} {j : Nat} : ∀ (m p : Nat) (a b c : Nat → Int32), a j = b j → (heR bits v te cost m p (a, c)).1 j = (heR bits v te cost m p (b, c)).1 j := by
  intro m
  induction m with
  | zero => intro p a b c h; exact h
  | succ m ih =>
    intro p a b c h
    unfold heR heS
    split
    · refine ih _ _ _ _ ?_
      by_cases hj : j = p
      · subst hj; simp [va_up, h]
      · simp [va_up, hj, h]
    · exact ih _ _ _ _ h
theorem taR_1 {hi : Nat → Nat → Int32} {f : Nat} {lw : Option Nat} {sz n : Nat} {s : Nat → Nat} {wi te : Nat} {cost : Int32} {hold : Bool} {j : Nat} : ∀ (m v : Nat) (a b c : Nat → Int32) (x : Int32), a j = b j → (taR hi f lw sz n s wi te cost hold m v (a, c, x)).1 j = (taR hi f lw sz n s wi te cost hold m v (b, c, x)).1 j := by
  intro m
  induction m with
  | zero => intro v a b c x h; exact h
  | succ m ih =>
    intro v a b c x h
    unfold taR taS
    dsimp only
    split
    · rw [heR_2 7 0 a b c]
      exact ih _ _ _ _ _ (heR_1 7 0 a b c h)
    · exact ih _ _ _ _ _ h
/-- who heard what, apart -/
def hbV (hi : Nat → Nat → Int32) (f : Nat) (lw : Option Nat) (sz n ev wi : Nat) (row : Nat → Int32) : Nat → Int32 := (taR hi f lw sz n (sOf row) wi (sOf row wi) (hi (f + 1) 3) true ev 0 (fun _ => 0, row, 0)).1
theorem c_hearApart {ev wi : Nat} (hk : CK hi f lw sz n ev wi) (hQ : ∀ hi', Same scr1 hi hi' → (∀ j, j < 7 → hi' 52 j = hbV hi f lw sz n ev wi (hi 39) j) → Q none (HP hi' hl f dr t)) : Ct G (0, 0) (d + 6) 147 [.ref 0] (HP hi hl f dr t) Q := by
  have hs : Sok 38 39 := Or.inl ⟨rfl, rfl⟩
  have hs2 : Sok 40 41 := Or.inr (Or.inl ⟨rfl, rfl⟩)
  have hS1 : Same scr1 hi (upC hi 41 (hi 39)) := upS _ (by decide)
  have hfl := hk.fl hS1 (by decide)
  have hk2 := hk.moved hS1 (by decide)
  obtain ⟨hf, hw, hlw, ⟨hn, hn1, hev, hwi, hc, hc4, hc0⟩, hsit⟩ := hk2
  obtain ⟨f1, -⟩ := hf.frt hi hl f dr t
  refine Ct_of (ls := [_]) m_147.1.2.2.1 (Nat.le_of_ble_eq_true rfl) rfl ?_
  refine wq_aload_n q147_0 rfl ?_
  refine wq_getR q147_1 rfl rfl rfl ?_
  refine wq_aload_n q147_4 rfl ?_
  refine wq_getR q147_5 rfl rfl rfl ?_
  refine cV (As := [_]) q147_8 m_55 rfl rfl rfl ⟨by decide, rfl⟩ rfl (c_scopy2 (hs2.scn _ _ _ _ _) (hs.scn _ _ _ _ _) ?_)
  rw [hpC]
  have e39 : hI (HP hi hl f dr t) 39 = hi 39 := rfl
  rw [e39]
  have e3 : hI (HP (upC hi 41 (hi 39)) hl f dr t) (f + 1) 3 = hi (f + 1) 3 := by show upC hi 41 _ (f + 1) 3 = _; rw [hfl.2.1]
  have after : ∀ hi2 : Nat → Nat → Int32, taI (upC hi 41 (hi 39)) 41 n (sOf (hi 39)) (taR (upC hi 41 (hi 39)) f lw sz n (sOf (hi 39)) wi (sOf (hi 39) wi) (hi (f + 1) 3) true ev 0 (fun i => if i < 7 then 0 else upC hi 41 (hi 39) 52 i, upC hi 41 (hi 39) 41, 0)) hi2 → ∀ x, wq G (0, 0) (d + 6) 147 38 [some (.ref 0)] [.int x] (0, 0) (HP hi2 hl f dr t) Q := by
    intro hi2 hI2 x
    refine wq_pop q147_38 rfl ?_
    refine rV q147_39 ?_
    refine hQ hi2 (hS1.tr hI2.1) (fun j hj => ?_)
    rw [hI2.2.1, taR_congr hfl, upC_s]
    exact taR_1 _ _ _ _ _ _ (if_pos hj)
  have hsk : SiK (upC hi 41 (hi 39) 41) n (sOf (hi 39)) := by rw [upC_s]; exact hsit.si
  cases hlw' : lw with
  | none =>
    subst hlw'
    refine wq_aload_n q147_11 rfl ?_
    refine wq_getR q147_12 (by first | exact f1 | rfl) rfl (by first | exact f1 | rfl) ?_
    refine wq_aload_n q147_15 rfl ?_
    refine wq_getR q147_16 (by first | exact f1 | rfl) rfl (by first | exact f1 | rfl) ?_
    refine wq_aload_n q147_19 rfl ?_
    refine wq_getR q147_20 (by first | exact f1 | rfl) rfl (by first | exact f1 | rfl) ?_
    refine wq_aload_n q147_23 rfl ?_
    refine cV (As := []) q147_24 m_108 rfl rfl (by first | exact f1 | rfl) ⟨by decide, rfl⟩ rfl (c_lawNow hlw ?_)
    refine wq_aload_n q147_27 rfl ?_
    refine wq_getR q147_28 (by first | exact f1 | rfl) rfl (by first | exact f1 | rfl) ?_
    refine cV (As := []) q147_31 m_19 rfl rfl (by first | exact f1 | rfl) ⟨by decide, rfl⟩ rfl (c_cost (by exact hf.frt _ hl f dr t) ?_)
    rw [e3]
    refine wq_iconst q147_34 ?_
    refine cV (As := [_, _, _, _, _]) q147_35 m_31 rfl rfl rfl ⟨by decide, rfl⟩ rfl (c_tellAll (lw := none) (hold := true) (s := sOf (hi 39)) hf hs2 hw hn hev hwi hc hc4 hc0 hsk (fun hi2 hI2 => ?_))
    exact after hi2 hI2 _
  | some la =>
    subst hlw'
    refine wq_aload_n q147_11 rfl ?_
    refine wq_getR q147_12 (by first | exact f1 | rfl) rfl (by first | exact f1 | rfl) ?_
    refine wq_aload_n q147_15 rfl ?_
    refine wq_getR q147_16 (by first | exact f1 | rfl) rfl (by first | exact f1 | rfl) ?_
    refine wq_aload_n q147_19 rfl ?_
    refine wq_getR q147_20 (by first | exact f1 | rfl) rfl (by first | exact f1 | rfl) ?_
    refine wq_aload_n q147_23 rfl ?_
    refine cV (As := []) q147_24 m_108 rfl rfl (by first | exact f1 | rfl) ⟨by decide, rfl⟩ rfl (c_lawNow hlw ?_)
    refine wq_aload_n q147_27 rfl ?_
    refine wq_getR q147_28 (by first | exact f1 | rfl) rfl (by first | exact f1 | rfl) ?_
    refine cV (As := []) q147_31 m_19 rfl rfl (by first | exact f1 | rfl) ⟨by decide, rfl⟩ rfl (c_cost (by exact hf.frt _ hl f dr t) ?_)
    rw [e3]
    refine wq_iconst q147_34 ?_
    refine cV (As := [_, _, _, _, _]) q147_35 m_31 rfl rfl rfl ⟨by decide, rfl⟩ rfl (c_tellAll (lw := (some la)) (hold := true) (s := sOf (hi 39)) hf hs2 hw hn hev hwi hc hc4 hc0 hsk (fun hi2 hI2 => ?_))
    exact after hi2 hI2 _
/-- what one has -/
def hsV (hb : Nat → Int32) (cost : Int32) (p q : Nat) (x y : Int32) : Int32 := if x = 0 then 0 else bc (hb p) * (3 - cost) - (if y = 1 then bc (hb p &&& hb q) else 0)
theorem c_has {p q : Nat} {x y : Int32} {hb : Nat → Int32} (hf : Fok f) (hp : p < 7) (hq : q < 7) (hh : ∀ j, j < 7 → hi 52 j = hb j) (hQ : Q (some (.int (hsV hb (hi (f + 1) 3) p q x y))) (HP hi hl f dr t)) : Ct G (0, 0) (d + 1) 148 [.ref 0, .int (nI p), .int (nI q), .int x, .int y] (HP hi hl f dr t) Q := by
  obtain ⟨f1, -⟩ := hf.frt hi hl f dr t
  have e1 : hI (HP hi hl f dr t) 52 p = hb p := hh p hp
  have e2 : hI (HP hi hl f dr t) 52 q = hb q := hh q hq
  refine Ct_of (ls := [_, _, _, _, _, _, _]) m_148.1.2.2.1 (Nat.le_of_ble_eq_true rfl) rfl ?_
  refine wq_iload_n q148_0 rfl ?_
  refine wq_if_ne q148_1 (fun c1 => ?_) (fun c1 => ?_)
  · refine wq_aload_n q148_6 rfl ?_
    refine wq_getR q148_7 (by first | exact f1 | rfl) rfl (by first | exact f1 | rfl) ?_
    refine wq_getR q148_10 (by first | exact f1 | rfl) rfl (by first | exact f1 | rfl) ?_
    refine wq_iload_n q148_13 rfl ?_
    refine aI q148_14 (by first | exact f1 | rfl) (rfl) (by show p < 7; omega) (by first | decide | omega) ?_
    refine cS' (As := [_]) q148_15 m_295 rfl rfl rfl (c_bitCount ?_)
    refine wq_istore (ls' := [_, _, _, _, _, _, _]) q148_18 rfl ?_
    refine wq_aload_n q148_20 rfl ?_
    refine wq_getR q148_21 (by first | exact f1 | rfl) rfl (by first | exact f1 | rfl) ?_
    refine wq_getR q148_24 (by first | exact f1 | rfl) rfl (by first | exact f1 | rfl) ?_
    refine wq_iload_n q148_27 rfl ?_
    refine aI q148_28 (by first | exact f1 | rfl) (rfl) (by show p < 7; omega) (by first | decide | omega) ?_
    refine wq_aload_n q148_29 rfl ?_
    refine wq_getR q148_30 (by first | exact f1 | rfl) rfl (by first | exact f1 | rfl) ?_
    refine wq_getR q148_33 (by first | exact f1 | rfl) rfl (by first | exact f1 | rfl) ?_
    refine wq_iload_n q148_36 rfl ?_
    refine aI q148_37 (by first | exact f1 | rfl) (rfl) (by show q < 7; omega) (by first | decide | omega) ?_
    refine wq_iand q148_38 ?_
    refine cS' (As := [_]) q148_39 m_295 rfl rfl rfl (c_bitCount ?_)
    refine wq_istore (ls' := [_, _, _, _, _, _, _]) q148_42 rfl ?_
    refine wq_iload q148_44 rfl ?_
    refine wq_iconst q148_46 ?_
    refine wq_aload_n q148_47 rfl ?_
    refine wq_getR q148_48 (by first | exact f1 | rfl) rfl (by first | exact f1 | rfl) ?_
    refine cV (As := []) q148_51 m_19 rfl rfl (by first | exact f1 | rfl) ⟨by decide, rfl⟩ rfl (c_cost (by exact hf.frt hi hl f dr t) ?_)
    refine wq_isub q148_54 ?_
    refine wq_imul q148_55 ?_
    rw [hsV, if_neg c1] at hQ
    rw [e1, e2]
    refine wq_iload q148_56 rfl ?_
    refine wq_iconst q148_58 ?_
    refine wq_icmp_ne q148_59 (fun c59 => ?_) (fun c59 => ?_)
    · rw [if_neg c59] at hQ
      refine wq_iconst q148_67 ?_
      refine wq_isub q148_68 ?_
      refine rI q148_69 rfl ?_
      exact hQ
    · rw [if_pos c59] at hQ
      refine wq_iload q148_62 rfl ?_
      refine wq_goto q148_64 ?_
      refine wq_isub q148_68 ?_
      refine rI q148_69 rfl ?_
      exact hQ
  · rw [hsV, if_pos c1] at hQ
    refine wq_iconst q148_4 ?_
    refine rI q148_5 rfl ?_
    exact hQ
def cbB (m te x y : Int32) : Bool := inB x m && inB y m && !decide (x = y) && !decide (x = te) && !decide (y = te)
theorem c_canBuy {wi : Nat} {x y : Int32} (hf : Fok f) (hwi : wi < 7) (hc0 : hi (f + 1) 0 = nI wi) (hQ : Q (some (.int (if cbB (hi f 3) (hi 39 wi) x y = true then 1 else 0))) (HP hi hl f dr t)) : Ct G (0, 0) (d + 2) 146 [.ref 0, .int x, .int y] (HP hi hl f dr t) Q := by
  have zero : ∀ {ls : List (Option Value)}, cbB (hi f 3) (hi 39 wi) x y = false → wq G (0, 0) (d + 2) 146 41 ls [] (0, 0) (HP hi hl f dr t) Q := by
    intro ls hb
    rw [hb] at hQ
    refine wq_iconst q146_41 ?_
    refine rI q146_42 rfl ?_
    exact hQ
  refine Ct_of (ls := [_, _, _]) m_146.1.2.2.1 (Nat.le_of_ble_eq_true rfl) rfl ?_
  refine wq_aload_n q146_0 rfl ?_
  refine wq_iload_n q146_1 rfl ?_
  refine cV (As := [_]) q146_2 m_103 rfl rfl rfl ⟨by decide, rfl⟩ rfl (c_isPrisoner hf ?_)
  refine wq_if_eq q146_5 (fun c5 => ?_) (fun c5 => ?_)
  · have c := i01 c5
    exact zero (by simp [cbB, c])
  · have c := i10 c5
    refine wq_aload_n q146_8 rfl ?_
    refine wq_iload_n q146_9 rfl ?_
    refine cV (As := [_]) q146_10 m_103 rfl rfl rfl ⟨by decide, rfl⟩ rfl (c_isPrisoner hf ?_)
    refine wq_if_eq q146_13 (fun c13 => ?_) (fun c13 => ?_)
    · have c' := i01 c13
      exact zero (by simp [cbB, c'])
    · have c' := i10 c13
      refine wq_iload_n q146_16 rfl ?_
      refine wq_iload_n q146_17 rfl ?_
      refine wq_icmp_eq q146_18 (fun c18 => ?_) (fun c18 => ?_)
      · exact zero (by simp [cbB, c18])
      · refine wq_iload_n q146_21 rfl ?_
        refine wq_aload_n q146_22 rfl ?_
        refine cV (As := []) q146_23 m_106 rfl rfl rfl ⟨by decide, rfl⟩ rfl (c_teller hf hwi hc0 ?_)
        refine wq_icmp_eq q146_26 (fun c26 => ?_) (fun c26 => ?_)
        · exact zero (by simp [cbB, c26])
        · refine wq_iload_n q146_29 rfl ?_
          refine wq_aload_n q146_30 rfl ?_
          refine cV (As := []) q146_31 m_106 rfl rfl rfl ⟨by decide, rfl⟩ rfl (c_teller hf hwi hc0 ?_)
          refine wq_icmp_eq q146_34 (fun c34 => ?_) (fun c34 => ?_)
          · exact zero (by simp [cbB, c34])
          · have : cbB (hi f 3) (hi 39 wi) x y = true := by simp [cbB, c, c', c18, c26, c34]
            rw [this] at hQ
            refine wq_iconst q146_37 ?_
            refine wq_goto q146_38 ?_
            refine rI q146_42 rfl ?_
            exact hQ
theorem cbB_N {te x y : Int32} (hn : n ≤ 7) (h : cbB (nI n) te x y = true) : ∃ p q, p < n ∧ q < n ∧ x = nI p ∧ y = nI q := by
  simp only [cbB, Bool.and_eq_true] at h
  obtain ⟨p, hp, rfl⟩ := inB_N (m := n) (by omega) h.1.1.1.1
  obtain ⟨q, hq, rfl⟩ := inB_N (m := n) (by omega) h.1.1.1.2
  exact ⟨p, q, hp, hq, rfl, rfl⟩
theorem c_buys {ev wi : Nat} {o p x y : Int32} (hk : CK hi f lw sz n ev wi) (h0 : ¬ (cbB (hi f 3) (hi 39 wi) o p = true ∧ 0 ≤ x ∧ x ≤ 1 ∧ 0 ≤ y ∧ y ≤ 1) → Q (some (.int (-1000000))) (HP hi hl f dr t))
    (h1 : ∀ a b hi', a < n → b < n → o = nI a → p = nI b → cbB (hi f 3) (hi 39 wi) o p = true → 0 ≤ x → x ≤ 1 → 0 ≤ y → y ≤ 1 → Same scr1 hi hi' → Q (some (.int (hsV (hbV hi f lw sz n ev wi (hi 39)) (hi (f + 1) 3) a b x y))) (HP hi' hl f dr t)) : Ct G (0, 0) (d + 7) 142 [.ref 0, .int o, .int p, .int x, .int y] (HP hi hl f dr t) Q := by
  have hn := hk.2.2.2.1.1
  have hwi := hk.2.2.2.1.2.2.2.1
  have hc := hk.2.2.2.1.2.2.2.2.1
  refine Ct_of (ls := [_, _, _, _, _]) m_142.1.2.2.1 (Nat.le_of_ble_eq_true rfl) rfl ?_
  refine wq_aload_n q142_0 rfl ?_
  refine wq_iload_n q142_1 rfl ?_
  refine wq_iload_n q142_2 rfl ?_
  refine cV (As := [_, _]) q142_3 m_146 rfl rfl rfl ⟨by decide, rfl⟩ rfl (c_canBuy (wi := wi) hk.1 (by omega) hk.2.2.2.1.2.2.2.2.2.2 ?_)
  refine wq_if_eq q142_6 (fun c6 => ?_) (fun c6 => ?_)
  · have c := i01 c6
    refine wq_ldc q142_29 ?_
    refine rI q142_31 rfl ?_
    exact h0 (fun z => by rw [z.1] at c; cases c)
  · have c := i10 c6
    refine wq_iload_n q142_9 rfl ?_
    refine wq_if_lt q142_10 (fun c10 => ?_) (fun c10 => ?_)
    · refine wq_ldc q142_29 ?_
      refine rI q142_31 rfl ?_
      exact h0 (fun z => absurd z.2.1 (Int32.not_le.mpr c10))
    · refine wq_iload_n q142_13 rfl ?_
      refine wq_iconst q142_14 ?_
      refine wq_icmp_gt q142_15 (fun c15 => ?_) (fun c15 => ?_)
      · refine wq_ldc q142_29 ?_
        refine rI q142_31 rfl ?_
        exact h0 (fun z => absurd z.2.2.1 (Int32.not_le.mpr c15))
      · refine wq_iload q142_18 rfl ?_
        refine wq_if_lt q142_20 (fun c20 => ?_) (fun c20 => ?_)
        · refine wq_ldc q142_29 ?_
          refine rI q142_31 rfl ?_
          exact h0 (fun z => absurd z.2.2.2.1 (Int32.not_le.mpr c20))
        · refine wq_iload q142_23 rfl ?_
          refine wq_iconst q142_25 ?_
          refine wq_icmp_le q142_26 (fun c26 => ?_) (fun c26 => ?_)
          · obtain ⟨a, b, ha, hb, rfl, rfl⟩ := cbB_N hn (by rw [← hc]; exact c)
            refine wq_aload_n q142_32 rfl ?_
            refine cV (As := []) q142_33 m_147 rfl rfl rfl ⟨by decide, rfl⟩ rfl (c_hearApart hk (fun hi2 h2 g2 => ?_))
            have hfl := hk.fl h2 (by decide)
            refine wq_aload_n q142_36 rfl ?_
            refine wq_iload_n q142_37 rfl ?_
            refine wq_iload_n q142_38 rfl ?_
            refine wq_iload_n q142_39 rfl ?_
            refine wq_iload q142_40 rfl ?_
            refine cV (As := [_, _, _, _]) q142_42 m_148 rfl rfl rfl ⟨by decide, rfl⟩ rfl (c_has hk.1 (by omega) (by omega) g2 ?_)
            refine rI q142_45 rfl ?_
            rw [hfl.2.1]
            exact h1 a b hi2 ha hb rfl rfl c (Int32.not_lt.mp c10) (Int32.not_lt.mp c15) (Int32.not_lt.mp c20) c26 h2
          · refine wq_ldc q142_29 ?_
            refine rI q142_31 rfl ?_
            exact h0 (fun z => c26 z.2.2.2.2)
/-- a pair of choices that rests -/
abbrev xk (k : Nat) : Int32 := nI k >>> ((1 : Int32) &&& 31)
def reB (hb : Nat → Int32) (cost : Int32) (a b k : Nat) : Bool := decide (hsV hb cost a b ((1 : Int32) - xk k) (nI k &&& 1) ≤ hsV hb cost a b (xk k) (nI k &&& 1)) && decide (hsV hb cost b a (1 - (nI k &&& 1)) (xk k) ≤ hsV hb cost b a (nI k &&& 1) (xk k))
def reR (hb : Nat → Int32) (cost : Int32) (a b : Nat) (i : Int32) : Nat → Nat → Int32 → Int32
  | 0, _, c => if i = -1 then c else -1
  | m + 1, k, c => if reB hb cost a b k = true then (if c = i then (10 : Int32) * xk k + (nI k &&& 1) else reR hb cost a b i m (k + 1) (c + 1)) else reR hb cost a b i m (k + 1) c
theorem c_rests_loop {a b : Nat} {i : Int32} {hb : Nat → Int32} (hf : Fok f) (ha : a < 7) (hb7 : b < 7) (hh : ∀ j, j < 7 → hi 52 j = hb j) : ∀ (m k : Nat) (c : Int32) (x6 x7 : Option Value), k + m = 4 → Q (some (.int (reR hb (hi (f + 1) 3) a b i m k c))) (HP hi hl f dr t) →
    wq G (0, 0) (d + 2) 143 26 [some (.ref 0), some (.int (nI a)), some (.int (nI b)), some (.int i), some (.int c), some (.int (nI k)), x6, x7] [] (0, 0) (HP hi hl f dr t) Q := by
  intro m
  induction m with
  | zero =>
    intro k c x6 x7 hm hQ
    rw [reR] at hQ
    refine wq_iload q143_26 rfl ?_
    refine wq_iconst q143_28 ?_
    refine wq_icmp_ge q143_29 (fun c29 => ?_) (fun c29 => ?_)
    · refine wq_iload_n q143_118 rfl ?_
      refine wq_iconst q143_119 ?_
      refine wq_icmp_ne q143_120 (fun c120 => ?_) (fun c120 => ?_)
      · rw [if_neg c120] at hQ
        refine wq_iconst q143_128 ?_
        refine rI q143_129 rfl ?_
        exact hQ
      · rw [if_pos c120] at hQ
        refine wq_iload q143_123 rfl ?_
        refine wq_goto q143_125 ?_
        refine rI q143_129 rfl ?_
        exact hQ
    · rw [show (4 : Int32) = nI 4 from rfl, nI_leI (by omega) (by omega)] at c29
      omega
  | succ m ih =>
    intro k c x6 x7 hm hQ
    rw [reR] at hQ
    refine wq_iload q143_26 rfl ?_
    refine wq_iconst q143_28 ?_
    refine wq_icmp_ge q143_29 (fun c29 => ?_) (fun c29 => ?_)
    · rw [show (4 : Int32) = nI 4 from rfl, nI_leI (by omega) (by omega)] at c29
      omega
    · refine wq_iload q143_32 rfl ?_
      refine wq_iconst q143_34 ?_
      refine wq_ishr q143_35 ?_
      refine wq_istore (ls' := [_, _, _, _, _, _, _, _]) q143_36 rfl ?_
      refine wq_iload q143_38 rfl ?_
      refine wq_iconst q143_40 ?_
      refine wq_iand q143_41 ?_
      refine wq_istore (ls' := [_, _, _, _, _, _, _, _]) q143_42 rfl ?_
      refine wq_aload_n q143_44 rfl ?_
      refine wq_iload_n q143_45 rfl ?_
      refine wq_iload_n q143_46 rfl ?_
      refine wq_iload q143_47 rfl ?_
      refine wq_iload q143_49 rfl ?_
      refine cV (As := [_, _, _, _]) q143_51 m_148 rfl rfl rfl ⟨by decide, rfl⟩ rfl (c_has hf ha hb7 hh ?_)
      refine wq_aload_n q143_54 rfl ?_
      refine wq_iload_n q143_55 rfl ?_
      refine wq_iload_n q143_56 rfl ?_
      refine wq_iconst q143_57 ?_
      refine wq_iload q143_58 rfl ?_
      refine wq_isub q143_60 ?_
      refine wq_iload q143_61 rfl ?_
      refine cV (As := [_, _, _, _]) q143_63 m_148 rfl rfl rfl ⟨by decide, rfl⟩ rfl (c_has hf ha hb7 hh ?_)
      refine wq_icmp_lt q143_66 (fun c66 => ?_) (fun c66 => ?_)
      · have e : reB hb (hi (f + 1) 3) a b k = false := by
          have : ¬ hsV hb (hi (f + 1) 3) a b ((1 : Int32) - xk k) (nI k &&& 1) ≤ hsV hb (hi (f + 1) 3) a b (xk k) (nI k &&& 1) := Int32.not_le.mpr c66
          unfold reB
          rw [decide_eq_false this]
          rfl
        rw [e] at hQ
        refine wq_iinc (ls' := [_, _, _, _, _, _, _, _]) q143_112 rfl rfl ?_
        refine wq_goto q143_115 ?_
        rw [nI_1]
        exact ih (k + 1) c _ _ (by omega) hQ
      · have e1 : hsV hb (hi (f + 1) 3) a b ((1 : Int32) - xk k) (nI k &&& 1) ≤ hsV hb (hi (f + 1) 3) a b (xk k) (nI k &&& 1) := Int32.not_lt.mp c66
        refine wq_aload_n q143_69 rfl ?_
        refine wq_iload_n q143_70 rfl ?_
        refine wq_iload_n q143_71 rfl ?_
        refine wq_iload q143_72 rfl ?_
        refine wq_iload q143_74 rfl ?_
        refine cV (As := [_, _, _, _]) q143_76 m_148 rfl rfl rfl ⟨by decide, rfl⟩ rfl (c_has hf hb7 ha hh ?_)
        refine wq_aload_n q143_79 rfl ?_
        refine wq_iload_n q143_80 rfl ?_
        refine wq_iload_n q143_81 rfl ?_
        refine wq_iconst q143_82 ?_
        refine wq_iload q143_83 rfl ?_
        refine wq_isub q143_85 ?_
        refine wq_iload q143_86 rfl ?_
        refine cV (As := [_, _, _, _]) q143_88 m_148 rfl rfl rfl ⟨by decide, rfl⟩ rfl (c_has hf hb7 ha hh ?_)
        refine wq_icmp_lt q143_91 (fun c91 => ?_) (fun c91 => ?_)
        · have e : reB hb (hi (f + 1) 3) a b k = false := by
            have : ¬ hsV hb (hi (f + 1) 3) b a (1 - (nI k &&& 1)) (xk k) ≤ hsV hb (hi (f + 1) 3) b a (nI k &&& 1) (xk k) := Int32.not_le.mpr c91
            unfold reB
            rw [decide_eq_false this, Bool.and_false]
          rw [e] at hQ
          refine wq_iinc (ls' := [_, _, _, _, _, _, _, _]) q143_112 rfl rfl ?_
          refine wq_goto q143_115 ?_
          rw [nI_1]
          exact ih (k + 1) c _ _ (by omega) hQ
        · have e2 : hsV hb (hi (f + 1) 3) b a (1 - (nI k &&& 1)) (xk k) ≤ hsV hb (hi (f + 1) 3) b a (nI k &&& 1) (xk k) := Int32.not_lt.mp c91
          have e : reB hb (hi (f + 1) 3) a b k = true := by
            unfold reB
            rw [decide_eq_true e1, decide_eq_true e2]
            rfl
          rw [if_pos e] at hQ
          refine wq_iload q143_94 rfl ?_
          refine wq_iload_n q143_96 rfl ?_
          refine wq_icmp_ne q143_97 (fun c97 => ?_) (fun c97 => ?_)
          · rw [if_neg c97] at hQ
            refine wq_iinc (ls' := [_, _, _, _, _, _, _, _]) q143_109 rfl rfl ?_
            refine wq_iinc (ls' := [_, _, _, _, _, _, _, _]) q143_112 rfl rfl ?_
            refine wq_goto q143_115 ?_
            rw [nI_1]
            exact ih (k + 1) (c + 1) _ _ (by omega) hQ
          · rw [if_pos c97] at hQ
            refine wq_bipush q143_100 ?_
            refine wq_iload q143_102 rfl ?_
            refine wq_imul q143_104 ?_
            refine wq_iload q143_105 rfl ?_
            refine wq_iadd q143_107 ?_
            refine rI q143_108 rfl ?_
            exact hQ
theorem c_rests {ev wi : Nat} {o p i : Int32} (hk : CK hi f lw sz n ev wi) (h0 : ¬ (cbB (hi f 3) (hi 39 wi) o p = true ∧ -1 ≤ i) → Q (some (.int (-1))) (HP hi hl f dr t))
    (h1 : ∀ a b hi', a < n → b < n → o = nI a → p = nI b → cbB (hi f 3) (hi 39 wi) o p = true → -1 ≤ i → Same scr1 hi hi' → Q (some (.int (reR (hbV hi f lw sz n ev wi (hi 39)) (hi (f + 1) 3) a b i 4 0 0))) (HP hi' hl f dr t)) : Ct G (0, 0) (d + 7) 143 [.ref 0, .int o, .int p, .int i] (HP hi hl f dr t) Q := by
  have hn := hk.2.2.2.1.1
  have hwi := hk.2.2.2.1.2.2.2.1
  have hc := hk.2.2.2.1.2.2.2.2.1
  refine Ct_of (ls := [_, _, _, _, _, _, _, _]) m_143.1.2.2.1 (Nat.le_of_ble_eq_true rfl) rfl ?_
  refine wq_aload_n q143_0 rfl ?_
  refine wq_iload_n q143_1 rfl ?_
  refine wq_iload_n q143_2 rfl ?_
  refine cV (As := [_, _]) q143_3 m_146 rfl rfl rfl ⟨by decide, rfl⟩ rfl (c_canBuy (wi := wi) hk.1 (by omega) hk.2.2.2.1.2.2.2.2.2.2 ?_)
  refine wq_if_eq q143_6 (fun c6 => ?_) (fun c6 => ?_)
  · have c := i01 c6
    refine wq_iconst q143_14 ?_
    refine rI q143_15 rfl ?_
    exact h0 (fun z => by rw [z.1] at c; cases c)
  · have c := i10 c6
    refine wq_iload_n q143_9 rfl ?_
    refine wq_iconst q143_10 ?_
    refine wq_icmp_ge q143_11 (fun c11 => ?_) (fun c11 => ?_)
    · obtain ⟨a, b, ha, hb, rfl, rfl⟩ := cbB_N hn (by rw [← hc]; exact c)
      refine wq_aload_n q143_16 rfl ?_
      refine cV (As := []) q143_17 m_147 rfl rfl rfl ⟨by decide, rfl⟩ rfl (c_hearApart hk (fun hi2 h2 g2 => ?_))
      refine wq_iconst q143_20 ?_
      refine wq_istore (ls' := [_, _, _, _, _, _, _, _]) q143_21 rfl ?_
      refine wq_iconst q143_23 ?_
      refine wq_istore (ls' := [_, _, _, _, _, _, _, _]) q143_24 rfl ?_
      have hfl := hk.fl h2 (by decide)
      refine c_rests_loop hk.1 (by omega) (by omega) g2 4 0 0 _ _ (by omega) ?_
      rw [hfl.2.1]
      exact h1 a b hi2 ha hb rfl rfl c c11 h2
    · refine wq_iconst q143_14 ?_
      refine rI q143_15 rfl ?_
      exact h0 (fun z => c11 z.2)
end BUYS
