/-! THE REFERENCE reads a law: sums -/
abbrev BVp (v : Int32) : Prop := v = 0 ∨ v = 1
abbrev TVp (_ : Int32) : Prop := True
/-- how a piece of the reference's parser answers -/
def RX (G : ph_G) (d : Nat) (hl : Nat → Nat → Int64) (f dr t : Nat) (hi : Nat → Nat → Int32) (L : Nat) (lt : Nat → Int32) (P : Int32 → Prop) (dp : Int32) (k : Nat) (args : List Value) (par : Nat → PR Ex) : Prop :=
  ∀ (p : Nat) (Q : Option Value → ph_H → Prop), p ≤ L → (∀ p' e, par p = .inr (p', e) → P (e.2 lt) → Q (some (.int (e.2 lt))) (HP (rpS hi p' (-1) dp) hl f dr t)) → (∀ q p' dp' v, par p = .inl q → p' ≤ L → P v → Q (some (.int v)) (HP (rpS hi p' (nI q) dp') hl f dr t)) → Ct G (0, 0) d k args (HP (rpS hi p (-1) dp) hl f dr t) Q
theorem j42 (a b : Int64) : jn (0 - 42) a b = cl6 (a * b) := by unfold jn jnL; rw [if_neg (by decide), if_neg (by decide), if_pos (by decide)]
theorem j47 (a b : Int64) : jn (0 - 47) a b = cl6 (if b = 0 then 0 else a / b) := by unfold jn jnL; rw [if_neg (by decide), if_neg (by decide), if_neg (by decide), if_pos (by decide)]
theorem j43 (a b : Int64) : jn (0 - 43) a b = cl6 (a + b) := by unfold jn jnL; rw [if_pos (by decide)]
theorem j45 (a b : Int64) : jn (0 - 45) a b = cl6 (a - b) := by unfold jn jnL; rw [if_neg (by decide), if_pos (by decide)]
section REFLAW
variable {G : ph_G} {d f dr t bg L N p : Nat} {hi : Nat → Nat → Int32} {hl : Nat → Nat → Int64} {fl dp : Int32} {Q : Option Value → ph_H → Prop} {b lt : Nat → Int32}
theorem tpSkip_L : tpSkip b L L = L := by
  have := tpSkip_le (b := b) (L := L) (p := L) (Nat.le_refl _)
  omega
theorem tat_L : tat b L L = -1 := by unfold tat; rw [if_neg (by omega)]
/-- the digits of a number in a law -/
theorem c_ratom_dg {x1 : Int32} (hT : RT hi t bg L N b) : ∀ (m r p : Nat) (v : Int32), p ≤ L → r + m = 4 →
    (∀ x, x = tpDg b L (-1) m v r p → x.2.2 ≤ L → (isDg (tat b L x.2.2) = true → Q (some (.int 0)) (HP (rpS hi x.2.2 (nI x.2.2) dp) hl f dr t)) ∧ (¬ isDg (tat b L x.2.2) = true → Q (some (.int x.1)) (HP (rpS hi x.2.2 (-1) dp) hl f dr t))) →
    wq G (0, 0) (d + 1) 183 90 [some (.ref 58), some (.int x1), some (.int v), some (.int (nI r))] [] (0, 0) (HP (rpS hi p (-1) dp) hl f dr t) Q := by
  intro m
  induction m with
  | zero =>
    intro r p v hp hm hQ
    obtain ⟨q1, q2⟩ := hQ (v, r, p) rfl hp
    dsimp only at q1 q2
    have e11 : hI (HP (rpS hi p (-1) dp) hl f dr t) 58 11 = -1 := rfl
    obtain rfl : r = 4 := by omega
    refine wq_aload_n q183_90 rfl ?_
    refine cV (As := []) q183_91 m_181 rfl rfl rfl ⟨by decide, rfl⟩ rfl (c_risDigit hT hp ?_)
    refine wq_if_eq q183_94 (fun c94 => ?_) (fun c94 => ?_)
    · refine wq_iload_n q183_156 rfl ?_
      refine rI q183_157 rfl ?_
      exact q2 (p01 c94)
    · refine wq_aload_n q183_97 rfl ?_
      refine wq_getI q183_98 rfl rfl ?_
      refine wq_iconst q183_101 ?_
      refine wq_icmp_ne q183_102 (fun c102 => ?_) (fun c102 => ?_)
      · exact absurd e11 c102
      · refine wq_iload_n q183_105 rfl ?_
        refine wq_iconst q183_106 ?_
        refine wq_icmp_ne q183_107 (fun c107 => ?_) (fun c107 => ?_)
        · exact absurd rfl c107
        · refine wq_aload_n q183_110 rfl ?_
          refine cV (As := []) q183_111 m_178 rfl rfl rfl ⟨by decide, rfl⟩ rfl (c_rfails ?_)
          refine wq_pop q183_114 rfl ?_
          refine wq_iconst q183_115 ?_
          refine rI q183_116 rfl ?_
          rw [tpF, if_pos rfl]
          exact q1 (p10 c94)
  | succ m ih =>
    intro r p v hp hm hQ
    obtain ⟨hsh, hne, hN⟩ := hT.sh (rpS hi p (-1) dp) hl f dr t
    have e11 : hI (HP (rpS hi p (-1) dp) hl f dr t) 58 11 = -1 := rfl
    have e2 : hI (HP (rpS hi p (-1) dp) hl f dr t) 58 10 = nI p := rfl
    have e3 : hI (HP (rpS hi p (-1) dp) hl f dr t) 58 8 = nI bg := hT.2.2.2.2.1
    have hLm := hT.2.1
    have hbg := hT.2.2.1
    rw [tpDg, tat_here] at hQ
    refine wq_aload_n q183_90 rfl ?_
    refine cV (As := []) q183_91 m_181 rfl rfl rfl ⟨by decide, rfl⟩ rfl (c_risDigit hT hp ?_)
    refine wq_if_eq q183_94 (fun c94 => ?_) (fun c94 => ?_)
    · have c := p01 c94
      rw [if_neg c] at hQ
      refine wq_iload_n q183_156 rfl ?_
      refine rI q183_157 rfl ?_
      exact (hQ _ rfl hp).2 c
    · have c := p10 c94
      rw [if_pos c] at hQ
      have hlt := tat_dg c
      rw [pass_lt hlt] at hQ
      refine wq_aload_n q183_97 rfl ?_
      refine wq_getI q183_98 rfl rfl ?_
      refine wq_iconst q183_101 ?_
      refine wq_icmp_ne q183_102 (fun c102 => ?_) (fun c102 => ?_)
      · exact absurd e11 c102
      · refine wq_iload_n q183_105 rfl ?_
        refine wq_iconst q183_106 ?_
        refine wq_icmp_ne q183_107 (fun c107 => ?_) (fun c107 => ?_)
        · obtain ⟨x, x1, x2, x3⟩ := hT.2.2.2.1 p hlt
          have e4 : hI (HP (rpS hi p (-1) dp) hl f dr t) t (bg + p) = tat b L p := by
            show rpS hi p (-1) dp t (bg + p) = _
            rw [rpS_o _ _ _ _ hne, hT.2.2.2.2.2.2 p hlt, x3]
            rw [tat, if_pos hlt, x3] at c ⊢
            exact (by_ok x x2).2.2.2 (by simpa [isDg] using c)
          refine wq_bipush q183_117 ?_
          refine wq_iload_n q183_119 rfl ?_
          refine wq_imul q183_120 ?_
          refine wq_aload_n q183_121 rfl ?_
          refine wq_getR q183_122 (by first | exact hsh | rfl) rfl (by first | exact hsh | rfl) ?_
          refine wq_aload_n q183_125 rfl ?_
          refine wq_getI q183_126 (by first | exact hsh | rfl) rfl ?_
          refine wq_aload_n q183_129 rfl ?_
          refine wq_getI q183_130 (by first | exact hsh | rfl) rfl ?_
          refine wq_iadd q183_133 ?_
          refine aB q183_134 (by first | exact hsh | rfl) ((by rw [e3, e2, nI_add])) (by omega) (by first | decide | omega) ?_
          refine wq_iadd q183_135 ?_
          refine wq_bipush q183_136 ?_
          refine wq_isub q183_138 ?_
          refine wq_istore_n (ls' := [_, _, _, _]) q183_139 rfl ?_
          rw [e4]
          refine wq_aload_n q183_140 rfl ?_
          refine wq_dup q183_141 rfl ?_
          refine wq_getI q183_142 rfl rfl ?_
          refine wq_iconst q183_145 ?_
          refine wq_iadd q183_146 ?_
          refine wq_putI q183_147 rfl rfl rfl rfl ?_
          refine wq_iinc (ls' := [_, _, _, _]) q183_150 rfl rfl ?_
          refine wq_goto q183_153 ?_
          rw [e2, nI_1 p, nI_1 r, hpS, rpS_p]
          exact ih (r + 1) (p + 1) _ (by omega) (by omega) hQ
        · rw [show (4 : Int32) = nI 4 from rfl, nI_eq (by omega) (by omega)] at c107
          omega
theorem c_ratom {lv : Nat} (hT : RT hi t bg L N b) (hlt : ∀ k, k < 6 → lt k = hi 62 (cB 3 k).toNatClampNeg) (hlv : lv ≤ 6) (hsum : ∀ l, lv = l + 1 → RX G (d + 4) hl f dr t hi L lt TVp (nI (6 - l)) 185 [.ref 58] (pSum b L l)) :
    RX G (d + 5) hl f dr t hi L lt TVp (nI (6 - lv)) 183 [.ref 58] (pAtom b L (pInn b L lv)) := by
  intro p Q hp hQ hF
  have hLm := hT.2.1
  have hs := tpSkip_le (b := b) hp
  have hid := tpSkip_id (b := b) hp
  refine Ct_of (ls := [_, _, _, _]) m_183.1.2.2.1 (Nat.le_of_ble_eq_true rfl) rfl ?_
  refine wq_aload_n q183_0 rfl ?_
  refine cV (As := []) q183_1 m_177 rfl rfl rfl ⟨by decide, rfl⟩ rfl (c_rlook hT hp ?_)
  refine wq_istore_n (ls' := [_, _, _, _]) q183_4 rfl ?_
  generalize hq : tpSkip b L p = q at hs hid
  generalize hc : tat b L q = c
  have hpa : pAtom b L (pInn b L lv) p = (if isDg c = true then (if isDg (tat b L (pDg b L q).2.2) = true then pno (pDg b L q).2.2 else pok (pDg b L q).2.2 (exNum (pDg b L q).1))
      else if ¬ liO 3 c = -1 then pok (q + 1) (exLet (liO 3 c).toNatClampNeg)
      else if c = 91 then (match pInn b L lv with
        | none => pno q
        | some f => pB (f (q + 1)) (fun p' e => pEnd b L 93 p' e))
      else pno q) := by
    unfold pAtom
    rw [hq, hc]
    rfl
  rw [hpa] at hQ hF
  have e10 : ∀ fl' dp', hI (HP (rpS hi q fl' dp') hl f dr t) 58 10 = nI q := fun _ _ => rfl
  refine wq_ldcS q183_5 ?_
  refine wq_iload_n q183_7 rfl ?_
  refine cS' (As := [_, _]) q183_8 m_172 rfl rfl rfl (c_isAmong (j := 3) (by decide) ?_)
  refine wq_if_eq q183_11 (fun c11 => ?_) (fun c11 => ?_)
  · have hli : liO 3 c = -1 := by
      by_cases z : liO 3 c = -1
      · exact z
      · rw [if_neg z] at c11
        exact absurd c11 (by decide)
    refine wq_iload_n q183_31 rfl ?_
    refine wq_bipush q183_32 ?_
    refine wq_icmp_ne q183_34 (fun c34 => ?_) (fun c34 => ?_)
    · rw [if_neg c34] at hQ hF
      refine wq_aload_n q183_74 rfl ?_
      refine cV (As := []) q183_75 m_181 rfl rfl rfl ⟨by decide, rfl⟩ rfl (c_risDigit hT hs.2 ?_)
      refine wq_if_ne q183_78 (fun c78 => ?_) (fun c78 => ?_)
      · have hd : isDg c = true := by rw [← hc]; exact p10 c78
        rw [if_pos hd] at hQ hF
        refine wq_iconst q183_86 ?_
        refine wq_istore_n (ls' := [_, _, _, _]) q183_87 rfl ?_
        refine wq_iconst q183_88 ?_
        refine wq_istore_n (ls' := [_, _, _, _]) q183_89 rfl ?_
        refine c_ratom_dg hT 4 0 q 0 hs.2 (by omega) (fun x hx hxL => ?_)
        have hx' : pDg b L q = x := hx.symm
        rw [hx'] at hQ hF
        refine ⟨fun z => ?_, fun z => ?_⟩
        · rw [if_pos z] at hF
          exact hF _ _ _ _ rfl hxL trivial
        · rw [if_neg z] at hQ
          exact hQ x.2.2 (exNum x.1) rfl trivial
      · have hd : ¬ isDg c = true := by rw [← hc]; exact p01 c78
        rw [if_neg hd, if_neg (fun z => z hli)] at hF
        refine wq_aload_n q183_81 rfl ?_
        refine cV (As := []) q183_82 m_178 rfl rfl rfl ⟨by decide, rfl⟩ rfl (c_rfails ?_)
        refine wq_pop q183_85 rfl ?_
        refine wq_iconst q183_86 ?_
        refine wq_istore_n (ls' := [_, _, _, _]) q183_87 rfl ?_
        refine wq_iconst q183_88 ?_
        refine wq_istore_n (ls' := [_, _, _, _]) q183_89 rfl ?_
        refine wq_aload_n q183_90 rfl ?_
        refine cV (As := []) q183_91 m_181 rfl rfl rfl ⟨by decide, rfl⟩ rfl (c_risDigit hT hs.2 ?_)
        refine wq_if_eq q183_94 (fun c94 => ?_) (fun c94 => ?_)
        · refine wq_iload_n q183_156 rfl ?_
          refine rI q183_157 rfl ?_
          rw [tpF, if_pos rfl]
          exact hF _ _ _ _ rfl hs.2 trivial
        · exact absurd (p10 c94) (by rw [hc]; exact hd)
    · subst c34
      rw [if_neg (by decide), if_neg (fun z => z hli), if_pos rfl] at hQ hF
      have hlt' : q < L := tat_lt hc (by decide)
      refine wq_aload_n q183_37 rfl ?_
      refine cV (As := []) q183_38 m_179 rfl rfl rfl ⟨by decide, rfl⟩ rfl (c_rgoesIn (fun hx => ?_) (fun hx => ?_))
      · have hl0 : lv = 0 := by
          rw [show (6 : Int32) = nI 6 from rfl, nI_eq (by omega) (by omega)] at hx
          omega
        subst hl0
        refine wq_if_ne q183_41 (fun c41 => ?_) (fun c41 => ?_)
        · exact absurd rfl c41
        · refine wq_iconst q183_44 ?_
          refine rI q183_45 rfl ?_
          rw [tpF, if_pos rfl]
          exact hF q q _ _ rfl hs.2 trivial
      · obtain ⟨l, rfl⟩ : ∃ l, lv = l + 1 := ⟨lv - 1, by
          have : lv ≠ 0 := fun z => hx (by subst z; rfl)
          omega⟩
        have hQ : ∀ p' e, pB (pSum b L l (q + 1)) (fun p' e => pEnd b L 93 p' e) = .inr (p', e) → TVp (e.2 lt) → Q (some (.int (e.2 lt))) (HP (rpS hi p' (-1) (nI (6 - (l + 1)))) hl f dr t) := hQ
        have hF : ∀ q_1 p' dp' v, pB (pSum b L l (q + 1)) (fun p' e => pEnd b L 93 p' e) = .inl q_1 → p' ≤ L → TVp v → Q (some (.int v)) (HP (rpS hi p' (nI q_1) dp') hl f dr t) := hF
        have edp : nI (6 - (l + 1)) + 1 = nI (6 - l) := by rw [nI_1]; congr 1; omega
        rw [edp]
        have hpg := pSum_ok (b := b) (L := L) l (q + 1) (by omega)
        refine wq_if_ne q183_41 (fun c41 => ?_) (fun c41 => ?_)
        · refine wq_aload_n q183_46 rfl ?_
          refine cV (As := []) q183_47 m_185 rfl rfl rfl ⟨by decide, rfl⟩ rfl (hsum l rfl (q + 1) _ (by omega) (fun p1 e1 h1 _ => ?_) (fun q1 p1 dp1 v1 h1 hp1 _ => ?_))
          · rw [h1] at hQ hF hpg
            have hp1 : p1 ≤ L := hpg.2.1
            refine wq_istore_n (ls' := [_, _, _, _]) q183_50 rfl ?_
            refine wq_aload_n q183_51 rfl ?_
            refine wq_bipush q183_52 ?_
            refine cV (As := [_]) q183_54 m_180 rfl rfl rfl ⟨by decide, rfl⟩ rfl (c_rtakes hT hp1 (fun _ z => ?_) (fun _ z => ?_) (fun z => ?_))
            · refine wq_if_ne q183_57 (fun c57 => ?_) (fun c57 => ?_)
              · have e12 : hI (HP (rpS hi (tpSkip b L p1 + 1) (-1) (nI (6 - l))) hl f dr t) 58 12 = nI (6 - l) := rfl
                refine wq_aload_n q183_62 rfl ?_
                refine wq_dup q183_63 rfl ?_
                refine wq_getI q183_64 rfl rfl ?_
                refine wq_iconst q183_67 ?_
                refine wq_isub q183_68 ?_
                refine wq_putI q183_69 rfl rfl rfl rfl ?_
                refine wq_iload_n q183_72 rfl ?_
                refine rI q183_73 rfl ?_
                rw [e12, hpS, rpS_d, ← edp, show nI (6 - (l + 1)) + 1 - 1 = nI (6 - (l + 1)) by rw [nI_1]; exact nI_pred _]
                exact hQ _ e1 (by show pEnd b L 93 p1 e1 = _; unfold pEnd; rw [if_pos z]) trivial
              · exact absurd c57 (by decide)
            · refine wq_if_ne q183_57 (fun c57 => ?_) (fun c57 => ?_)
              · exact absurd rfl c57
              · refine wq_iconst q183_60 ?_
                refine rI q183_61 rfl ?_
                exact hF _ _ _ _ (by show pEnd b L 93 p1 e1 = _; unfold pEnd; rw [if_neg z]) (tpSkip_le hp1).2 trivial
            · exact absurd rfl z
          · rw [h1] at hF hpg
            have hq1 : q1 ≤ L := hpg
            refine wq_istore_n (ls' := [_, _, _, _]) q183_50 rfl ?_
            refine wq_aload_n q183_51 rfl ?_
            refine wq_bipush q183_52 ?_
            refine cV (As := [_]) q183_54 m_180 rfl rfl rfl ⟨by decide, rfl⟩ rfl (c_rtakes hT hp1 (fun z => ?_) (fun z => ?_) (fun z => ?_))
            · exact absurd z (nI_nm1 (by omega))
            · exact absurd z (nI_nm1 (by omega))
            · refine wq_if_ne q183_57 (fun c57 => ?_) (fun c57 => ?_)
              · exact absurd rfl c57
              · refine wq_iconst q183_60 ?_
                refine rI q183_61 rfl ?_
                exact hF _ _ _ _ rfl hp1 trivial
        · exact absurd c41 (by decide)
  · have hli : ¬ liO 3 c = -1 := fun z => c11 (by rw [if_pos z])
    rcases liO_nm (j := 3) (x := c) (by decide) with z | ⟨k, k1, k2, k3⟩
    · exact absurd z hli
    · have hk6 : k < 6 := k1
      have hlt' : q < L := tat_lt hc (fun z => by have := (cB_ok 3 (by decide) k hk6).1; rw [k3, z] at this; exact absurd this (by decide))
      have hnd : ¬ isDg c = true := by
        have : ∀ k, k < 6 → ¬ isDg (cB 3 k) = true := by decide
        rw [← k3]
        exact this k hk6
      rw [if_neg hnd, if_pos hli, k2, nI_clamp (by omega)] at hQ
      have hc128 : ∃ j, j < 128 ∧ c = nI j := by
        rw [← k3]
        have : ∀ k, k < 6 → (cB 3 k).toNatClampNeg < 128 ∧ cB 3 k = nI (cB 3 k).toNatClampNeg := by decide
        exact ⟨_, (this k hk6).1, (this k hk6).2⟩
      obtain ⟨j, j1, j2⟩ := hc128
      refine wq_aload_n q183_14 rfl ?_
      refine wq_dup q183_15 rfl ?_
      refine wq_getI q183_16 rfl rfl ?_
      refine wq_iconst q183_19 ?_
      refine wq_iadd q183_20 ?_
      refine wq_putI q183_21 rfl rfl rfl rfl ?_
      rw [e10, nI_1, hpS, rpS_p]
      refine wq_aload_n q183_24 rfl ?_
      refine wq_getR q183_25 rfl rfl rfl ?_
      refine wq_iload_n q183_28 rfl ?_
      refine aI q183_29 rfl (j2) (j1) (by first | decide | omega) ?_
      refine rI q183_30 rfl ?_
      have ev : (exLet k).2 lt = hI (HP (rpS hi (q + 1) (-1) (nI (6 - lv))) hl f dr t) 62 j := by
        show lt k = rpS hi (q + 1) (-1) (nI (6 - lv)) 62 j
        rw [hlt k hk6, k3, j2, nI_clamp (by omega), rpS_o _ _ _ _ (by decide)]
      rw [← ev]
      exact hQ _ (exLet k) rfl trivial
/-- products, sums: what comes behind the first -/
theorem c_rterm_loop {sub : Nat → PR Ex} {D : Nat} (hT : RT hi t bg L N b) (hpg : PGf L D sub) (hd : 1 ≤ d) (hsub : RX G d hl f dr t hi L lt TVp dp 183 [.ref 58] sub) :
    ∀ (m p : Nat) (e : Ex) (x2 x3 x4 : Option Value), p ≤ L → L ≤ p + m →
    (∀ p' e', pLoop b L isMul sub m p e = .inr (p', e') → Q (some (.int (e'.2 lt))) (HP (rpS hi p' (-1) dp) hl f dr t)) →
    (∀ q p' dp' v, pLoop b L isMul sub m p e = .inl q → p' ≤ L → Q (some (.int v)) (HP (rpS hi p' (nI q) dp') hl f dr t)) →
    wq G (0, 0) (d + 1) 184 5 [some (.ref 58), some (.int (e.2 lt)), x2, x3, x4] [] (0, 0) (HP (rpS hi p (-1) dp) hl f dr t) Q := by
  have hLm := hT.2.1
  obtain ⟨d, rfl⟩ : ∃ d', d = d' + 1 := ⟨d - 1, by omega⟩
  intro m
  induction m with
  | zero =>
    intro p e x2 x3 x4 hp hm hQ hF
    obtain rfl : p = L := by omega
    have e11 : hI (HP (rpS hi p (-1) dp) hl f dr t) 58 11 = -1 := rfl
    refine wq_aload_n q184_5 rfl ?_
    refine wq_getI q184_6 rfl rfl ?_
    refine wq_iconst q184_9 ?_
    refine wq_icmp_ne q184_10 (fun c10 => ?_) (fun c10 => ?_)
    · exact absurd e11 c10
    · refine wq_aload_n q184_13 rfl ?_
      refine cV (As := []) q184_14 m_177 rfl rfl rfl ⟨by decide, rfl⟩ rfl (c_rlook hT (Nat.le_refl _) ?_)
      refine wq_bipush q184_17 ?_
      refine wq_icmp_eq q184_19 (fun c19 => ?_) (fun c19 => ?_)
      · rw [tpSkip_L, tat_L] at c19
        exact absurd c19 (by decide)
      · rw [tpSkip_L]
        refine wq_aload_n q184_22 rfl ?_
        refine cV (As := []) q184_23 m_177 rfl rfl rfl ⟨by decide, rfl⟩ rfl (c_rlook hT (Nat.le_refl _) ?_)
        refine wq_bipush q184_26 ?_
        refine wq_icmp_ne q184_28 (fun c28 => ?_) (fun c28 => ?_)
        · rw [tpSkip_L]
          refine wq_iload_n q184_94 rfl ?_
          refine rI q184_95 rfl ?_
          exact hQ _ e rfl
        · rw [tpSkip_L, tat_L] at c28
          exact absurd c28 (by decide)
  | succ m ih =>
    intro p e x2 x3 x4 hp hm hQ hF
    have hs := tpSkip_le (b := b) hp
    have hid := tpSkip_id (b := b) hp
    have e11 : hI (HP (rpS hi p (-1) dp) hl f dr t) 58 11 = -1 := rfl
    generalize hq : tpSkip b L p = q at hs hid
    generalize hc : tat b L q = c
    have hpl : pLoop b L isMul sub (m + 1) p e = if isMul c = true then pB (sub (q + 1)) (fun p' e' => pLoop b L isMul sub m p' (exOp (0 - c) e e')) else pok q e := by
      rw [pLoop, hq, hc]
    rw [hpl] at hQ hF
    have more : isMul c = true → ∀ x2, wq G (0, 0) (d + 1 + 1) 184 31 [some (.ref 58), some (.int (e.2 lt)), x2, x3, x4] [] (0, 0) (HP (rpS hi q (-1) dp) hl f dr t) Q := by
      intro ho x2
      rw [if_pos ho] at hQ hF
      have hlt : q < L := tat_lt hc (isMul_ok c ho).1
      have hpgq := hpg (q + 1) (by omega)
      have fin : ∀ (x2 x3 x4 : Option Value) (v : Int32), ∀ p1 e1, sub (q + 1) = .inr (p1, e1) → v = (exOp (0 - c) e e1).2 lt → wq G (0, 0) (d + 1 + 1) 184 90 [some (.ref 58), some (.int (e.2 lt)), x2, x3, x4] [.int v] (0, 0) (HP (rpS hi p1 (-1) dp) hl f dr t) Q := by
        intro x2 x3 x4 v p1 e1 h1 hv
        rw [h1] at hQ hF hpgq
        refine wq_istore_n (ls' := [_, _, _, _, _]) q184_90 rfl ?_
        refine wq_goto q184_91 ?_
        rw [hv]
        exact ih p1 (exOp (0 - c) e e1) _ _ _ hpgq.2.1 (by have := hpgq.1; omega) hQ hF
      have bad : ∀ (x2 x3 x4 : Option Value) (v : Int32) (dp1 : Int32), ∀ q1 p1, sub (q + 1) = .inl q1 → p1 ≤ L → wq G (0, 0) (d + 1 + 1) 184 90 [some (.ref 58), some (.int (e.2 lt)), x2, x3, x4] [.int v] (0, 0) (HP (rpS hi p1 (nI q1) dp1) hl f dr t) Q := by
        intro x2 x3 x4 v dp1 q1 p1 h1 hp1
        rw [h1] at hF hpgq
        have hq1 : q1 ≤ L := hpgq
        refine wq_istore_n (ls' := [_, _, _, _, _]) q184_90 rfl ?_
        refine wq_goto q184_91 ?_
        refine wq_aload_n q184_5 rfl ?_
        refine wq_getI q184_6 rfl rfl ?_
        refine wq_iconst q184_9 ?_
        refine wq_icmp_ne q184_10 (fun c10 => ?_) (fun c10 => ?_)
        · refine wq_iload_n q184_94 rfl ?_
          refine rI q184_95 rfl ?_
          exact hF _ _ _ _ rfl hp1
        · exact absurd c10 (nI_nm1 (by omega))
      have step : ∀ (x2 : Int32) (p1 : Nat) (w1 : Int32) (fl1 dp1 : Int32), (x2 = 0 ↔ ¬ c = 42) → (∀ v x2 x3 x4, v = jn (0 - c) (e.2 lt).toInt64 w1.toInt64 → wq G (0, 0) (d + 1 + 1) 184 90 [some (.ref 58), some (.int (e.2 lt)), x2, x3, x4] [.int v] (0, 0) (HP (rpS hi p1 fl1 dp1) hl f dr t) Q) → wq G (0, 0) (d + 1 + 1) 184 60 [some (.ref 58), some (.int (e.2 lt)), some (.int x2), x3, x4] [.int w1] (0, 0) (HP (rpS hi p1 fl1 dp1) hl f dr t) Q := by
        intro x2 p1 w1 fl1 dp1 h42 K
        refine wq_i2l q184_60 ?_
        refine wq_lstore_n (ls' := [_, _, _, _, _]) q184_61 rfl ?_
        refine wq_iload_n q184_62 rfl ?_
        refine wq_if_eq q184_63 (fun c63 => ?_) (fun c63 => ?_)
        · have hc42 : ¬ c = 42 := h42.mp c63
          have hc47 : c = 47 := by simp [isMul, hc42] at ho; exact ho
          refine wq_lload_n q184_73 rfl ?_
          refine wq_lconst q184_74 ?_
          refine wq_lcmp q184_75 ?_
          refine wq_if_ne q184_76 (fun c76 => ?_) (fun c76 => ?_)
          · rw [lg_cmp_eq] at c76
            refine wq_iload_n q184_83 rfl ?_
            refine wq_i2l q184_84 ?_
            refine wq_lload_n q184_85 rfl ?_
            refine wq_ldiv q184_86 (by exact c76) ?_
            refine cS' (As := [_]) q184_87 m_182 rfl rfl rfl (c_within ?_)
            refine K _ _ _ _ ?_
            rw [hc47, j47, if_neg c76]
          · rw [lg_cmp_eq] at c76
            refine wq_lconst q184_79 ?_
            refine wq_goto q184_80 ?_
            refine cS' (As := [_]) q184_87 m_182 rfl rfl rfl (c_within ?_)
            refine K _ _ _ _ ?_
            rw [hc47, j47, if_pos c76]
        · have hc42 : c = 42 := Classical.byContradiction (fun z => c63 (h42.mpr z))
          refine wq_iload_n q184_66 rfl ?_
          refine wq_i2l q184_67 ?_
          refine wq_lload_n q184_68 rfl ?_
          refine wq_lmul q184_69 ?_
          refine wq_goto q184_70 ?_
          refine cS' (As := [_]) q184_87 m_182 rfl rfl rfl (c_within ?_)
          refine K _ _ _ _ ?_
          rw [hc42, j42]
      have call : ∀ (x2 : Int32), (x2 = 0 ↔ ¬ c = 42) → wq G (0, 0) (d + 1 + 1) 184 46 [some (.ref 58), some (.int (e.2 lt)), some (.int x2), x3, x4] [] (0, 0) (HP (rpS hi q (-1) dp) hl f dr t) Q := by
        intro x2 h42
        have e10 : hI (HP (rpS hi q (-1) dp) hl f dr t) 58 10 = nI q := rfl
        refine wq_aload_n q184_46 rfl ?_
        refine wq_dup q184_47 rfl ?_
        refine wq_getI q184_48 rfl rfl ?_
        refine wq_iconst q184_51 ?_
        refine wq_iadd q184_52 ?_
        refine wq_putI q184_53 rfl rfl rfl rfl ?_
        rw [e10, nI_1, hpS, rpS_p]
        refine wq_aload_n q184_56 rfl ?_
        refine cV (As := []) q184_57 m_183 rfl rfl rfl ⟨by decide, rfl⟩ rfl (hsub (q + 1) _ (by omega) (fun p1 e1 h1 _ => ?_) (fun q1 p1 dp1 v1 h1 hp1 _ => ?_))
        · exact step x2 p1 (e1.2 lt) (-1) dp h42 (fun v y2 y3 y4 hv => fin y2 y3 y4 v p1 e1 h1 hv)
        · exact step x2 p1 v1 (nI q1) dp1 h42 (fun v y2 y3 y4 _ => bad y2 y3 y4 v dp1 q1 p1 h1 hp1)
      refine wq_aload_n q184_31 rfl ?_
      refine cV (As := []) q184_32 m_177 rfl rfl rfl ⟨by decide, rfl⟩ rfl (c_rlook hT hs.2 ?_)
      refine wq_bipush q184_35 ?_
      refine wq_icmp_ne q184_37 (fun c37 => ?_) (fun c37 => ?_)
      · rw [hid, hc] at c37
        rw [hid]
        refine wq_iconst q184_44 ?_
        refine wq_istore_n (ls' := [_, _, _, _, _]) q184_45 rfl ?_
        exact call 0 ⟨fun _ => c37, fun _ => rfl⟩
      · rw [hid, hc] at c37
        rw [hid]
        refine wq_iconst q184_40 ?_
        refine wq_goto q184_41 ?_
        refine wq_istore_n (ls' := [_, _, _, _, _]) q184_45 rfl ?_
        exact call 1 ⟨fun z => absurd z (by decide), fun z => absurd c37 z⟩
    refine wq_aload_n q184_5 rfl ?_
    refine wq_getI q184_6 rfl rfl ?_
    refine wq_iconst q184_9 ?_
    refine wq_icmp_ne q184_10 (fun c10 => ?_) (fun c10 => ?_)
    · exact absurd e11 c10
    · refine wq_aload_n q184_13 rfl ?_
      refine cV (As := []) q184_14 m_177 rfl rfl rfl ⟨by decide, rfl⟩ rfl (c_rlook hT hp ?_)
      refine wq_bipush q184_17 ?_
      refine wq_icmp_eq q184_19 (fun c19 => ?_) (fun c19 => ?_)
      · rw [hq, hc] at c19
        rw [hq]
        exact more (by rw [c19]; rfl) _
      · rw [hq, hc] at c19
        rw [hq]
        refine wq_aload_n q184_22 rfl ?_
        refine cV (As := []) q184_23 m_177 rfl rfl rfl ⟨by decide, rfl⟩ rfl (c_rlook hT hs.2 ?_)
        refine wq_bipush q184_26 ?_
        refine wq_icmp_ne q184_28 (fun c28 => ?_) (fun c28 => ?_)
        · rw [hid, hc] at c28
          rw [hid]
          rw [if_neg (by simp [isMul, c19, c28])] at hQ
          refine wq_iload_n q184_94 rfl ?_
          refine rI q184_95 rfl ?_
          exact hQ _ e rfl
        · rw [hid, hc] at c28
          rw [hid]
          exact more (by rw [c28]; rfl) _
theorem c_rterm {inner : Option (Nat → PR Ex)} {D : Nat} (hT : RT hi t bg L N b) (hpg : PGf L D (pAtom b L inner)) (hd : 1 ≤ d) (hsub : RX G d hl f dr t hi L lt TVp dp 183 [.ref 58] (pAtom b L inner)) : RX G (d + 1) hl f dr t hi L lt TVp dp 184 [.ref 58] (pTerm b L inner) := by
  intro p Q hp hQ hF
  have hLm := hT.2.1
  have hpgp := hpg p hp
  refine Ct_of (ls := [_, _, _, _, _]) m_184.1.2.2.1 (Nat.le_of_ble_eq_true rfl) rfl ?_
  refine wq_aload_n q184_0 rfl ?_
  refine cV (As := []) q184_1 m_183 rfl rfl rfl ⟨by decide, rfl⟩ rfl (hsub p _ hp (fun p1 e1 h1 _ => ?_) (fun q1 p1 dp1 v1 h1 hp1 _ => ?_))
  · unfold pTerm at hQ hF
    rw [h1] at hQ hF hpgp
    refine wq_istore_n (ls' := [_, _, _, _, _]) q184_4 rfl ?_
    exact c_rterm_loop hT hpg hd hsub 240 p1 e1 _ _ _ hpgp.2.1 (by omega) (fun p' e' z => hQ p' e' z trivial) (fun q p' dp' v z hp' => hF q p' dp' v z hp' trivial)
  · unfold pTerm at hF
    rw [h1] at hF hpgp
    have hq1 : q1 ≤ L := hpgp
    refine wq_istore_n (ls' := [_, _, _, _, _]) q184_4 rfl ?_
    refine wq_aload_n q184_5 rfl ?_
    refine wq_getI q184_6 rfl rfl ?_
    refine wq_iconst q184_9 ?_
    refine wq_icmp_ne q184_10 (fun c10 => ?_) (fun c10 => ?_)
    · refine wq_iload_n q184_94 rfl ?_
      refine rI q184_95 rfl ?_
      exact hF _ _ _ _ rfl hp1 trivial
    · exact absurd c10 (nI_nm1 (by omega))
theorem c_rsum_loop {sub : Nat → PR Ex} {D : Nat} (hT : RT hi t bg L N b) (hpg : PGf L D sub) (hd : 1 ≤ d) (hsub : RX G d hl f dr t hi L lt TVp dp 184 [.ref 58] sub) :
    ∀ (m p : Nat) (e : Ex) (x2 x3 x4 : Option Value), p ≤ L → L ≤ p + m →
    (∀ p' e', pLoop b L isAdd sub m p e = .inr (p', e') → Q (some (.int (e'.2 lt))) (HP (rpS hi p' (-1) dp) hl f dr t)) →
    (∀ q p' dp' v, pLoop b L isAdd sub m p e = .inl q → p' ≤ L → Q (some (.int v)) (HP (rpS hi p' (nI q) dp') hl f dr t)) →
    wq G (0, 0) (d + 1) 185 5 [some (.ref 58), some (.int (e.2 lt)), x2, x3, x4] [] (0, 0) (HP (rpS hi p (-1) dp) hl f dr t) Q := by
  have hLm := hT.2.1
  obtain ⟨d, rfl⟩ : ∃ d', d = d' + 1 := ⟨d - 1, by omega⟩
  intro m
  induction m with
  | zero =>
    intro p e x2 x3 x4 hp hm hQ hF
    obtain rfl : p = L := by omega
    have e11 : hI (HP (rpS hi p (-1) dp) hl f dr t) 58 11 = -1 := rfl
    refine wq_aload_n q185_5 rfl ?_
    refine wq_getI q185_6 rfl rfl ?_
    refine wq_iconst q185_9 ?_
    refine wq_icmp_ne q185_10 (fun c10 => ?_) (fun c10 => ?_)
    · exact absurd e11 c10
    · refine wq_aload_n q185_13 rfl ?_
      refine cV (As := []) q185_14 m_177 rfl rfl rfl ⟨by decide, rfl⟩ rfl (c_rlook hT (Nat.le_refl _) ?_)
      refine wq_bipush q185_17 ?_
      refine wq_icmp_eq q185_19 (fun c19 => ?_) (fun c19 => ?_)
      · rw [tpSkip_L, tat_L] at c19
        exact absurd c19 (by decide)
      · rw [tpSkip_L]
        refine wq_aload_n q185_22 rfl ?_
        refine cV (As := []) q185_23 m_177 rfl rfl rfl ⟨by decide, rfl⟩ rfl (c_rlook hT (Nat.le_refl _) ?_)
        refine wq_bipush q185_26 ?_
        refine wq_icmp_ne q185_28 (fun c28 => ?_) (fun c28 => ?_)
        · rw [tpSkip_L]
          refine wq_iload_n q185_84 rfl ?_
          refine rI q185_85 rfl ?_
          exact hQ _ e rfl
        · rw [tpSkip_L, tat_L] at c28
          exact absurd c28 (by decide)
  | succ m ih =>
    intro p e x2 x3 x4 hp hm hQ hF
    have hs := tpSkip_le (b := b) hp
    have hid := tpSkip_id (b := b) hp
    have e11 : hI (HP (rpS hi p (-1) dp) hl f dr t) 58 11 = -1 := rfl
    generalize hq : tpSkip b L p = q at hs hid
    generalize hc : tat b L q = c
    have hpl : pLoop b L isAdd sub (m + 1) p e = if isAdd c = true then pB (sub (q + 1)) (fun p' e' => pLoop b L isAdd sub m p' (exOp (0 - c) e e')) else pok q e := by
      rw [pLoop, hq, hc]
    rw [hpl] at hQ hF
    have more : isAdd c = true → ∀ x2, wq G (0, 0) (d + 1 + 1) 185 31 [some (.ref 58), some (.int (e.2 lt)), x2, x3, x4] [] (0, 0) (HP (rpS hi q (-1) dp) hl f dr t) Q := by
      intro ho x2
      rw [if_pos ho] at hQ hF
      have hlt : q < L := tat_lt hc (isAdd_ok c ho).1
      have hpgq := hpg (q + 1) (by omega)
      have fin : ∀ (x2 x3 x4 : Option Value) (v : Int32), ∀ p1 e1, sub (q + 1) = .inr (p1, e1) → v = (exOp (0 - c) e e1).2 lt → wq G (0, 0) (d + 1 + 1) 185 80 [some (.ref 58), some (.int (e.2 lt)), x2, x3, x4] [.int v] (0, 0) (HP (rpS hi p1 (-1) dp) hl f dr t) Q := by
        intro x2 x3 x4 v p1 e1 h1 hv
        rw [h1] at hQ hF hpgq
        refine wq_istore_n (ls' := [_, _, _, _, _]) q185_80 rfl ?_
        refine wq_goto q185_81 ?_
        rw [hv]
        exact ih p1 (exOp (0 - c) e e1) _ _ _ hpgq.2.1 (by have := hpgq.1; omega) hQ hF
      have bad : ∀ (x2 x3 x4 : Option Value) (v : Int32) (dp1 : Int32), ∀ q1 p1, sub (q + 1) = .inl q1 → p1 ≤ L → wq G (0, 0) (d + 1 + 1) 185 80 [some (.ref 58), some (.int (e.2 lt)), x2, x3, x4] [.int v] (0, 0) (HP (rpS hi p1 (nI q1) dp1) hl f dr t) Q := by
        intro x2 x3 x4 v dp1 q1 p1 h1 hp1
        rw [h1] at hF hpgq
        have hq1 : q1 ≤ L := hpgq
        refine wq_istore_n (ls' := [_, _, _, _, _]) q185_80 rfl ?_
        refine wq_goto q185_81 ?_
        refine wq_aload_n q185_5 rfl ?_
        refine wq_getI q185_6 rfl rfl ?_
        refine wq_iconst q185_9 ?_
        refine wq_icmp_ne q185_10 (fun c10 => ?_) (fun c10 => ?_)
        · refine wq_iload_n q185_84 rfl ?_
          refine rI q185_85 rfl ?_
          exact hF _ _ _ _ rfl hp1
        · exact absurd c10 (nI_nm1 (by omega))
      have step : ∀ (x2 : Int32) (p1 : Nat) (w1 : Int32) (fl1 dp1 : Int32), (x2 = 0 ↔ ¬ c = 43) → (∀ v x2 x3 x4, v = jn (0 - c) (e.2 lt).toInt64 w1.toInt64 → wq G (0, 0) (d + 1 + 1) 185 80 [some (.ref 58), some (.int (e.2 lt)), x2, x3, x4] [.int v] (0, 0) (HP (rpS hi p1 fl1 dp1) hl f dr t) Q) → wq G (0, 0) (d + 1 + 1) 185 60 [some (.ref 58), some (.int (e.2 lt)), some (.int x2), x3, x4] [.int w1] (0, 0) (HP (rpS hi p1 fl1 dp1) hl f dr t) Q := by
        intro x2 p1 w1 fl1 dp1 h42 K
        refine wq_i2l q185_60 ?_
        refine wq_lstore_n (ls' := [_, _, _, _, _]) q185_61 rfl ?_
        refine wq_iload_n q185_62 rfl ?_
        refine wq_if_eq q185_63 (fun c63 => ?_) (fun c63 => ?_)
        · have hc42 : ¬ c = 43 := h42.mp c63
          have hc47 : c = 45 := by simp [isAdd, hc42] at ho; exact ho
          refine wq_iload_n q185_73 rfl ?_
          refine wq_i2l q185_74 ?_
          refine wq_lload_n q185_75 rfl ?_
          refine wq_lsub q185_76 ?_
          refine cS' (As := [_]) q185_77 m_182 rfl rfl rfl (c_within ?_)
          refine K _ _ _ _ ?_
          rw [hc47, j45]
        · have hc42 : c = 43 := Classical.byContradiction (fun z => c63 (h42.mpr z))
          refine wq_iload_n q185_66 rfl ?_
          refine wq_i2l q185_67 ?_
          refine wq_lload_n q185_68 rfl ?_
          refine wq_ladd q185_69 ?_
          refine wq_goto q185_70 ?_
          refine cS' (As := [_]) q185_77 m_182 rfl rfl rfl (c_within ?_)
          refine K _ _ _ _ ?_
          rw [hc42, j43]
      have call : ∀ (x2 : Int32), (x2 = 0 ↔ ¬ c = 43) → wq G (0, 0) (d + 1 + 1) 185 46 [some (.ref 58), some (.int (e.2 lt)), some (.int x2), x3, x4] [] (0, 0) (HP (rpS hi q (-1) dp) hl f dr t) Q := by
        intro x2 h42
        have e10 : hI (HP (rpS hi q (-1) dp) hl f dr t) 58 10 = nI q := rfl
        refine wq_aload_n q185_46 rfl ?_
        refine wq_dup q185_47 rfl ?_
        refine wq_getI q185_48 rfl rfl ?_
        refine wq_iconst q185_51 ?_
        refine wq_iadd q185_52 ?_
        refine wq_putI q185_53 rfl rfl rfl rfl ?_
        rw [e10, nI_1, hpS, rpS_p]
        refine wq_aload_n q185_56 rfl ?_
        refine cV (As := []) q185_57 m_184 rfl rfl rfl ⟨by decide, rfl⟩ rfl (hsub (q + 1) _ (by omega) (fun p1 e1 h1 _ => ?_) (fun q1 p1 dp1 v1 h1 hp1 _ => ?_))
        · exact step x2 p1 (e1.2 lt) (-1) dp h42 (fun v y2 y3 y4 hv => fin y2 y3 y4 v p1 e1 h1 hv)
        · exact step x2 p1 v1 (nI q1) dp1 h42 (fun v y2 y3 y4 _ => bad y2 y3 y4 v dp1 q1 p1 h1 hp1)
      refine wq_aload_n q185_31 rfl ?_
      refine cV (As := []) q185_32 m_177 rfl rfl rfl ⟨by decide, rfl⟩ rfl (c_rlook hT hs.2 ?_)
      refine wq_bipush q185_35 ?_
      refine wq_icmp_ne q185_37 (fun c37 => ?_) (fun c37 => ?_)
      · rw [hid, hc] at c37
        rw [hid]
        refine wq_iconst q185_44 ?_
        refine wq_istore_n (ls' := [_, _, _, _, _]) q185_45 rfl ?_
        exact call 0 ⟨fun _ => c37, fun _ => rfl⟩
      · rw [hid, hc] at c37
        rw [hid]
        refine wq_iconst q185_40 ?_
        refine wq_goto q185_41 ?_
        refine wq_istore_n (ls' := [_, _, _, _, _]) q185_45 rfl ?_
        exact call 1 ⟨fun z => absurd z (by decide), fun z => absurd c37 z⟩
    refine wq_aload_n q185_5 rfl ?_
    refine wq_getI q185_6 rfl rfl ?_
    refine wq_iconst q185_9 ?_
    refine wq_icmp_ne q185_10 (fun c10 => ?_) (fun c10 => ?_)
    · exact absurd e11 c10
    · refine wq_aload_n q185_13 rfl ?_
      refine cV (As := []) q185_14 m_177 rfl rfl rfl ⟨by decide, rfl⟩ rfl (c_rlook hT hp ?_)
      refine wq_bipush q185_17 ?_
      refine wq_icmp_eq q185_19 (fun c19 => ?_) (fun c19 => ?_)
      · rw [hq, hc] at c19
        rw [hq]
        exact more (by rw [c19]; rfl) _
      · rw [hq, hc] at c19
        rw [hq]
        refine wq_aload_n q185_22 rfl ?_
        refine cV (As := []) q185_23 m_177 rfl rfl rfl ⟨by decide, rfl⟩ rfl (c_rlook hT hs.2 ?_)
        refine wq_bipush q185_26 ?_
        refine wq_icmp_ne q185_28 (fun c28 => ?_) (fun c28 => ?_)
        · rw [hid, hc] at c28
          rw [hid]
          rw [if_neg (by simp [isAdd, c19, c28])] at hQ
          refine wq_iload_n q185_84 rfl ?_
          refine rI q185_85 rfl ?_
          exact hQ _ e rfl
        · rw [hid, hc] at c28
          rw [hid]
          exact more (by rw [c28]; rfl) _
theorem c_rsumI {lv D : Nat} (hT : RT hi t bg L N b) (hpg : PGf L D (pTerm b L (pInn b L lv))) (hd : 1 ≤ d) (hsub : RX G d hl f dr t hi L lt TVp dp 184 [.ref 58] (pTerm b L (pInn b L lv))) : RX G (d + 1) hl f dr t hi L lt TVp dp 185 [.ref 58] (pSum b L lv) := by
  intro p Q hp hQ hF
  have hLm := hT.2.1
  have hpgp := hpg p hp
  rw [pSum_I] at hQ hF
  unfold pSumI at hQ hF
  refine Ct_of (ls := [_, _, _, _, _]) m_185.1.2.2.1 (Nat.le_of_ble_eq_true rfl) rfl ?_
  refine wq_aload_n q185_0 rfl ?_
  refine cV (As := []) q185_1 m_184 rfl rfl rfl ⟨by decide, rfl⟩ rfl (hsub p _ hp (fun p1 e1 h1 _ => ?_) (fun q1 p1 dp1 v1 h1 hp1 _ => ?_))
  · rw [h1] at hQ hF hpgp
    refine wq_istore_n (ls' := [_, _, _, _, _]) q185_4 rfl ?_
    exact c_rsum_loop hT hpg hd hsub 240 p1 e1 _ _ _ hpgp.2.1 (by omega) (fun p' e' z => hQ p' e' z trivial) (fun q p' dp' v z hp' => hF q p' dp' v z hp' trivial)
  · rw [h1] at hF hpgp
    have hq1 : q1 ≤ L := hpgp
    refine wq_istore_n (ls' := [_, _, _, _, _]) q185_4 rfl ?_
    refine wq_aload_n q185_5 rfl ?_
    refine wq_getI q185_6 rfl rfl ?_
    refine wq_iconst q185_9 ?_
    refine wq_icmp_ne q185_10 (fun c10 => ?_) (fun c10 => ?_)
    · refine wq_iload_n q185_84 rfl ?_
      refine rI q185_85 rfl ?_
      exact hF _ _ _ _ rfl hp1 trivial
    · exact absurd c10 (nI_nm1 (by omega))
theorem c_rsum (hT : RT hi t bg L N b) (hlt : ∀ k, k < 6 → lt k = hi 62 (cB 3 k).toNatClampNeg) : ∀ lv, lv ≤ 6 → RX G (d + 7 + 3 * lv) hl f dr t hi L lt TVp (nI (6 - lv)) 185 [.ref 58] (pSum b L lv) := by
  intro lv
  induction lv with
  | zero =>
    intro hlv
    have ha := c_ratom (G := G) (d := d) (hl := hl) (f := f) (dr := dr) hT hlt hlv (fun l h => by omega)
    have hpa : PGf L 1 (pAtom b L (pInn b L 0)) := pAtom_ok (Nat.le_refl _) (fun f h => by cases h)
    have ht := c_rterm hT hpa (by omega) ha
    exact c_rsumI hT (pTerm_ok (Nat.le_refl _) (fun f h => by cases h)) (by omega) ht
  | succ lv ih =>
    intro hlv
    have hs := ih (by omega)
    have ha := c_ratom (G := G) (d := d + 3 + 3 * lv) (hl := hl) (f := f) (dr := dr) hT hlt hlv (fun l h => by
      obtain rfl : lv = l := by omega
      rw [show d + 3 + 3 * lv + 4 = d + 7 + 3 * lv by omega]
      exact hs)
    have hin := pInn_ok (b := b) (L := L) (lv + 1)
    have hpa := pAtom_ok (b := b) (D := 2 * (lv + 1) + 1) (by omega) hin
    have hpt := pTerm_ok (b := b) (D := 2 * (lv + 1) + 1) (by omega) hin
    have ht := c_rterm hT hpa (by omega) ha
    have := c_rsumI hT hpt (by omega) ht
    rw [show d + 7 + 3 * (lv + 1) = d + 3 + 3 * lv + 5 + 1 + 1 by omega]
    exact this
end REFLAW
