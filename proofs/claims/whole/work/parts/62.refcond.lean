/-! THE REFERENCE reads a law: conditions -/
theorem i64_lt {x y : Int32} : x.toInt64 < y.toInt64 ↔ x < y := by rw [Int64.lt_iff_toInt_lt, Int32.toInt_toInt64, Int32.toInt_toInt64, ← Int32.lt_iff_toInt_lt]
theorem i64_eq {x y : Int32} : x.toInt64 = y.toInt64 ↔ x = y := by rw [← Int64.toInt_inj, Int32.toInt_toInt64, Int32.toInt_toInt64, Int32.toInt_inj]
theorem j61 (x y : Int32) : jn (0 - 61) x.toInt64 y.toInt64 = if x = y then 1 else 0 := by
  unfold jn jnL
  rw [if_neg (by decide), if_neg (by decide), if_neg (by decide), if_neg (by decide), if_pos (by decide)]
  by_cases h : x = y
  · rw [if_pos (i64_eq.mpr h), if_pos h]; rfl
  · rw [if_neg (fun z => h (i64_eq.mp z)), if_neg h]; rfl
theorem j60 (x y : Int32) : jn (0 - 60) x.toInt64 y.toInt64 = if x < y then 1 else 0 := by
  unfold jn jnL
  rw [if_neg (by decide), if_neg (by decide), if_neg (by decide), if_neg (by decide), if_neg (by decide), if_pos (by decide)]
  by_cases h : x < y
  · rw [if_pos (i64_lt.mpr h), if_pos h]; rfl
  · rw [if_neg (fun z => h (i64_lt.mp z)), if_neg h]; rfl
theorem j62 (x y : Int32) : jn (0 - 62) x.toInt64 y.toInt64 = if y < x then 1 else 0 := by
  unfold jn jnL
  rw [if_neg (by decide), if_neg (by decide), if_neg (by decide), if_neg (by decide), if_neg (by decide), if_neg (by decide), if_pos (by decide)]
  by_cases h : y < x
  · rw [if_pos (i64_lt.mpr h), if_pos h]; rfl
  · rw [if_neg (fun z => h (i64_lt.mp z)), if_neg h]; rfl
theorem j38 {x y : Int32} (hx : BVp x) (hy : BVp y) : jn (0 - 38) x.toInt64 y.toInt64 = if x = 0 ∨ y = 0 then 0 else 1 := by
  rcases hx with rfl | rfl <;> rcases hy with rfl | rfl <;> decide
theorem j124 {x y : Int32} (hx : BVp x) (hy : BVp y) : jn (0 - 124) x.toInt64 y.toInt64 = if x = 0 ∧ y = 0 then 0 else 1 := by
  rcases hx with rfl | rfl <;> rcases hy with rfl | rfl <;> decide
theorem narB {v : Int32} (h : BVp v) : narrow .boolean (.int v) = .int v := by rcases h with rfl | rfl <;> rfl
theorem BV01 {c : Prop} [Decidable c] : BVp (if c then 1 else 0) := by
  by_cases h : c
  · rw [if_pos h]; exact Or.inr rfl
  · rw [if_neg h]; exact Or.inl rfl
theorem BV10 {c : Prop} [Decidable c] : BVp (if c then 0 else 1) := by
  by_cases h : c
  · rw [if_pos h]; exact Or.inl rfl
  · rw [if_neg h]; exact Or.inr rfl
/-- the same where a first sum is there already -/
def RXB (G : ph_G) (d : Nat) (hl : Nat → Nat → Int64) (f dr t : Nat) (hi : Nat → Nat → Int32) (L : Nat) (lt : Nat → Int32) (P : Int32 → Prop) (dp : Int32) (k : Nat) (par : Nat → Ex → PR Ex) : Prop :=
  ∀ (p : Nat) (e : Ex) (Q : Option Value → ph_H → Prop), p ≤ L → (∀ p' e', par p e = .inr (p', e') → P (e'.2 lt) → Q (some (.int (e'.2 lt))) (HP (rpS hi p' (-1) dp) hl f dr t)) → (∀ q p' dp' v, par p e = .inl q → p' ≤ L → P v → Q (some (.int v)) (HP (rpS hi p' (nI q) dp') hl f dr t)) → Ct G (0, 0) d k [.ref 58, .int 1, .int (e.2 lt)] (HP (rpS hi p (-1) dp) hl f dr t) Q
section REFCOND
variable {G : ph_G} {d f dr t bg L N p : Nat} {hi : Nat → Nat → Int32} {hl : Nat → Nat → Int64} {fl dp : Int32} {Q : Option Value → ph_H → Prop} {b lt : Nat → Int32}
/-- the end of a comparison: both sums are there -/
theorem c_rcmp_end {x1 x2 one oth c : Int32} {h : ph_H} (ho : isCmp c = true) (hQ : BVp (jn (0 - c) one.toInt64 oth.toInt64) → Q (some (.int (jn (0 - c) one.toInt64 oth.toInt64))) h) :
    wq G (0, 0) d 187 58 [some (.ref 58), some (.int x1), some (.int x2), some (.int one), some (.int c), some (.int oth)] [] (0, 0) h Q := by
  refine wq_iload q187_58 rfl ?_
  refine wq_bipush q187_60 ?_
  refine wq_icmp_ne q187_62 (fun c62 => ?_) (fun c62 => ?_)
  · refine wq_iload q187_79 rfl ?_
    refine wq_bipush q187_81 ?_
    refine wq_icmp_ne q187_83 (fun c83 => ?_) (fun c83 => ?_)
    · have hc : c = 62 := by simp [isCmp, c62, c83] at ho; exact ho
      subst hc
      rw [j62] at hQ
      refine wq_iload_n q187_100 rfl ?_
      refine wq_iload q187_101 rfl ?_
      refine wq_icmp_le q187_103 (fun c103 => ?_) (fun c103 => ?_)
      · rw [if_neg (Int32.not_lt.mpr c103)] at hQ
        refine wq_iconst q187_110 ?_
        refine rI q187_111 rfl ?_
        exact hQ (Or.inl rfl)
      · rw [if_pos (Int32.not_le.mp c103)] at hQ
        refine wq_iconst q187_106 ?_
        refine wq_goto q187_107 ?_
        refine rI q187_111 rfl ?_
        exact hQ (Or.inr rfl)
    · subst c83
      rw [j60] at hQ
      refine wq_iload_n q187_86 rfl ?_
      refine wq_iload q187_87 rfl ?_
      refine wq_icmp_ge q187_89 (fun c89 => ?_) (fun c89 => ?_)
      · rw [if_neg (Int32.not_lt.mpr c89)] at hQ
        refine wq_iconst q187_96 ?_
        refine wq_goto q187_97 ?_
        refine rI q187_111 rfl ?_
        exact hQ (Or.inl rfl)
      · rw [if_pos (Int32.not_le.mp c89)] at hQ
        refine wq_iconst q187_92 ?_
        refine wq_goto q187_93 ?_
        refine rI q187_111 rfl ?_
        exact hQ (Or.inr rfl)
  · subst c62
    rw [j61] at hQ
    refine wq_iload_n q187_65 rfl ?_
    refine wq_iload q187_66 rfl ?_
    refine wq_icmp_ne q187_68 (fun c68 => ?_) (fun c68 => ?_)
    · rw [if_neg c68] at hQ
      refine wq_iconst q187_75 ?_
      refine wq_goto q187_76 ?_
      refine rI q187_111 rfl ?_
      exact hQ (Or.inl rfl)
    · rw [if_pos c68] at hQ
      refine wq_iconst q187_71 ?_
      refine wq_goto q187_72 ?_
      refine rI q187_111 rfl ?_
      exact hQ (Or.inr rfl)
theorem c_rcmp_mid {lv : Nat} {x1 x2 : Int32} {x4 x5 : Option Value} (hT : RT hi t bg L N b) (hd : 1 ≤ d) (hsum : RX G d hl f dr t hi L lt TVp dp 185 [.ref 58] (pSum b L lv)) (e : Ex) (hp : p ≤ L)
    (hQ : ∀ p' e', pCmp b L lv p e = .inr (p', e') → BVp (e'.2 lt) → Q (some (.int (e'.2 lt))) (HP (rpS hi p' (-1) dp) hl f dr t)) (hF : ∀ q p' dp' v, pCmp b L lv p e = .inl q → p' ≤ L → BVp v → Q (some (.int v)) (HP (rpS hi p' (nI q) dp') hl f dr t)) :
    wq G (0, 0) (d + 1) 187 13 [some (.ref 58), some (.int x1), some (.int x2), some (.int (e.2 lt)), x4, x5] [] (0, 0) (HP (rpS hi p (-1) dp) hl f dr t) Q := by
  have hLm := hT.2.1
  have hs := tpSkip_le (b := b) hp
  have e11 : hI (HP (rpS hi p (-1) dp) hl f dr t) 58 11 = -1 := rfl
  generalize hq : tpSkip b L p = q at hs
  generalize hc : tat b L q = c
  have hpc : pCmp b L lv p e = if isCmp c = true then pB (pSum b L lv (q + 1)) (fun p' e' => pok p' (exOp (0 - c) e e')) else pno q := by
    unfold pCmp
    rw [hq, hc]
  rw [hpc] at hQ hF
  refine wq_aload_n q187_13 rfl ?_
  refine wq_getI q187_14 rfl rfl ?_
  refine wq_iconst q187_17 ?_
  refine wq_icmp_eq q187_18 (fun c18 => ?_) (fun c18 => ?_)
  · refine wq_aload_n q187_23 rfl ?_
    refine cV (As := []) q187_24 m_177 rfl rfl rfl ⟨by decide, rfl⟩ rfl (c_rlook hT hp ?_)
    refine wq_istore (ls' := [_, _, _, _, _, _]) q187_27 rfl ?_
    refine wq_iload q187_29 rfl ?_
    refine cS' (As := [_]) q187_31 m_186 rfl rfl rfl (c_risSign ?_)
    refine wq_if_ne q187_34 (fun c34 => ?_) (fun c34 => ?_)
    · rw [hq, hc] at c34
      have ho : isCmp c = true := p10 c34
      rw [if_pos ho] at hQ hF
      rw [hq, hc]
      have hlt : q < L := tat_lt hc (isCmp_ok c ho).1
      have e10 : hI (HP (rpS hi q (-1) dp) hl f dr t) 58 10 = nI q := rfl
      refine wq_aload_n q187_42 rfl ?_
      refine wq_dup q187_43 rfl ?_
      refine wq_getI q187_44 rfl rfl ?_
      refine wq_iconst q187_47 ?_
      refine wq_iadd q187_48 ?_
      refine wq_putI q187_49 rfl rfl rfl rfl ?_
      rw [e10, nI_1, hpS, rpS_p]
      refine wq_aload_n q187_52 rfl ?_
      refine cV (As := []) q187_53 m_185 rfl rfl rfl ⟨by decide, rfl⟩ rfl (hsum (q + 1) _ (by omega) (fun p1 e1 h1 _ => ?_) (fun q1 p1 dp1 v1 h1 hp1 _ => ?_))
      · refine wq_istore (ls' := [_, _, _, _, _, _]) q187_56 rfl ?_
        rw [h1] at hQ
        refine c_rcmp_end ho (fun hb => ?_)
        exact hQ p1 (exOp (0 - c) e e1) rfl hb
      · refine wq_istore (ls' := [_, _, _, _, _, _]) q187_56 rfl ?_
        rw [h1] at hF
        refine c_rcmp_end ho (fun hb => ?_)
        exact hF _ _ _ _ rfl hp1 hb
    · rw [hq, hc] at c34
      have ho : ¬ isCmp c = true := p01 c34
      rw [if_neg ho] at hF
      rw [hq]
      refine wq_aload_n q187_37 rfl ?_
      refine cV (As := []) q187_38 m_178 rfl rfl rfl ⟨by decide, rfl⟩ rfl (c_rfails ?_)
      refine rI q187_41 rfl ?_
      rw [tpF, if_pos rfl]
      exact hF _ _ _ _ rfl hs.2 (Or.inl rfl)
  · exact absurd e11 c18
theorem c_rcmpB {lv : Nat} (hT : RT hi t bg L N b) (hd : 1 ≤ d) (hsum : RX G d hl f dr t hi L lt TVp dp 185 [.ref 58] (pSum b L lv)) : RXB G (d + 1) hl f dr t hi L lt BVp dp 187 (pCmp b L lv) := by
  intro p e Q hp hQ hF
  refine Ct_of (ls := [_, _, _, _, _, _]) m_187.1.2.2.1 (Nat.le_of_ble_eq_true rfl) rfl ?_
  refine wq_iload_n q187_0 rfl ?_
  refine wq_if_eq q187_1 (fun c1 => ?_) (fun c1 => ?_)
  · exact absurd c1 (by decide)
  · refine wq_iload_n q187_4 rfl ?_
    refine wq_goto q187_5 ?_
    refine wq_istore_n (ls' := [_, _, _, _, _, _]) q187_12 rfl ?_
    exact c_rcmp_mid hT hd hsum e hp hQ hF
theorem c_rcmp {lv : Nat} (hT : RT hi t bg L N b) (hd : 1 ≤ d) (hsum : RX G d hl f dr t hi L lt TVp dp 185 [.ref 58] (pSum b L lv)) : RX G (d + 1) hl f dr t hi L lt BVp dp 187 [.ref 58, .int 0, .int 0] (fun p => pB (pSum b L lv p) (pCmp b L lv)) := by
  intro p Q hp hQ hF
  have hLm := hT.2.1
  have hpg := pSum_ok (b := b) (L := L) lv p hp
  refine Ct_of (ls := [_, _, _, _, _, _]) m_187.1.2.2.1 (Nat.le_of_ble_eq_true rfl) rfl ?_
  refine wq_iload_n q187_0 rfl ?_
  refine wq_if_eq q187_1 (fun c1 => ?_) (fun c1 => ?_)
  · refine wq_aload_n q187_8 rfl ?_
    refine cV (As := []) q187_9 m_185 rfl rfl rfl ⟨by decide, rfl⟩ rfl (hsum p _ hp (fun p1 e1 h1 _ => ?_) (fun q1 p1 dp1 v1 h1 hp1 _ => ?_))
    · refine wq_istore_n (ls' := [_, _, _, _, _, _]) q187_12 rfl ?_
      dsimp only at hQ hF
      rw [h1] at hQ hF hpg
      exact c_rcmp_mid hT hd hsum e1 hpg.2.1 hQ hF
    · refine wq_istore_n (ls' := [_, _, _, _, _, _]) q187_12 rfl ?_
      dsimp only at hF
      rw [h1] at hF hpg
      have hq1 : q1 ≤ L := hpg
      refine wq_aload_n q187_13 rfl ?_
      refine wq_getI q187_14 rfl rfl ?_
      refine wq_iconst q187_17 ?_
      refine wq_icmp_eq q187_18 (fun c18 => ?_) (fun c18 => ?_)
      · exact absurd c18 (nI_nm1 (by omega))
      · refine wq_iconst q187_21 ?_
        refine rI q187_22 rfl ?_
        exact hF _ _ _ _ rfl hp1 (Or.inl rfl)
  · exact absurd rfl c1
theorem c_rpart_loop {sub : Nat → PR Ex} {D : Nat} {y1 y2 : Int32} (hT : RT hi t bg L N b) (hpg : PGf L D sub) (hsub : RX G d hl f dr t hi L lt BVp dp 188 [.ref 58] sub) :
    ∀ (m p : Nat) (e : Ex) (x4 : Option Value), p ≤ L → L ≤ p + m → BVp (e.2 lt) →
    (∀ p' e', pLoop b L is38 sub m p e = .inr (p', e') → BVp (e'.2 lt) → Q (some (.int (e'.2 lt))) (HP (rpS hi p' (-1) dp) hl f dr t)) →
    (∀ q p' dp' v, pLoop b L is38 sub m p e = .inl q → p' ≤ L → BVp v → Q (some (.int v)) (HP (rpS hi p' (nI q) dp') hl f dr t)) →
    wq G (0, 0) (d + 1) 189 18 [some (.ref 58), some (.int y1), some (.int y2), some (.int (e.2 lt)), x4] [] (0, 0) (HP (rpS hi p (-1) dp) hl f dr t) Q := by
  have hLm := hT.2.1
  intro m
  induction m with
  | zero =>
    intro p e x4 hp hm hbv hQ hF
    obtain rfl : p = L := by omega
    have e11 : hI (HP (rpS hi p (-1) dp) hl f dr t) 58 11 = -1 := rfl
    refine wq_aload_n q189_18 rfl ?_
    refine wq_getI q189_19 rfl rfl ?_
    refine wq_iconst q189_22 ?_
    refine wq_icmp_ne q189_23 (fun c23 => ?_) (fun c23 => ?_)
    · exact absurd e11 c23
    · refine wq_aload_n q189_26 rfl ?_
      refine cV (As := []) q189_27 m_177 rfl rfl rfl ⟨by decide, rfl⟩ rfl (c_rlook hT (Nat.le_refl _) ?_)
      refine wq_bipush q189_30 ?_
      refine wq_icmp_ne q189_32 (fun c32 => ?_) (fun c32 => ?_)
      · rw [tpSkip_L]
        refine wq_iload_n q189_69 rfl ?_
        refine rI q189_70 (narB hbv) ?_
        exact hQ _ e rfl hbv
      · rw [tpSkip_L, tat_L] at c32
        exact absurd c32 (by decide)
  | succ m ih =>
    intro p e x4 hp hm hbv hQ hF
    have hs := tpSkip_le (b := b) hp
    have e11 : hI (HP (rpS hi p (-1) dp) hl f dr t) 58 11 = -1 := rfl
    generalize hq : tpSkip b L p = q at hs
    generalize hc : tat b L q = c
    have hpl : pLoop b L is38 sub (m + 1) p e = if is38 c = true then pB (sub (q + 1)) (fun p' e' => pLoop b L is38 sub m p' (exOp (0 - c) e e')) else pok q e := by
      rw [pLoop, hq, hc]
    rw [hpl] at hQ hF
    refine wq_aload_n q189_18 rfl ?_
    refine wq_getI q189_19 rfl rfl ?_
    refine wq_iconst q189_22 ?_
    refine wq_icmp_ne q189_23 (fun c23 => ?_) (fun c23 => ?_)
    · exact absurd e11 c23
    · refine wq_aload_n q189_26 rfl ?_
      refine cV (As := []) q189_27 m_177 rfl rfl rfl ⟨by decide, rfl⟩ rfl (c_rlook hT hp ?_)
      refine wq_bipush q189_30 ?_
      refine wq_icmp_ne q189_32 (fun c32 => ?_) (fun c32 => ?_)
      · rw [hq, hc] at c32
        rw [hq]
        rw [if_neg (by simp [is38, c32])] at hQ
        refine wq_iload_n q189_69 rfl ?_
        refine rI q189_70 (narB hbv) ?_
        exact hQ _ e rfl hbv
      · rw [hq, hc] at c32
        subst c32
        rw [if_pos (by rfl)] at hQ hF
        rw [hq]
        have hlt : q < L := tat_lt hc (by decide)
        have hpgq := hpg (q + 1) (by omega)
        have e10 : hI (HP (rpS hi q (-1) dp) hl f dr t) 58 10 = nI q := rfl
        refine wq_aload_n q189_35 rfl ?_
        refine wq_dup q189_36 rfl ?_
        refine wq_getI q189_37 rfl rfl ?_
        refine wq_iconst q189_40 ?_
        refine wq_iadd q189_41 ?_
        refine wq_putI q189_42 rfl rfl rfl rfl ?_
        rw [e10, nI_1, hpS, rpS_p]
        refine wq_aload_n q189_45 rfl ?_
        refine cV (As := []) q189_46 m_188 rfl rfl rfl ⟨by decide, rfl⟩ rfl (hsub (q + 1) _ (by omega) (fun p1 e1 h1 hb1 => ?_) (fun q1 p1 dp1 v1 h1 hp1 hb1 => ?_))
        · refine wq_istore (ls' := [_, _, _, _, _]) q189_49 rfl ?_
          rw [h1] at hQ hF hpgq
          have hv : (exOp (0 - 38) e e1).2 lt = if e.2 lt = 0 ∨ e1.2 lt = 0 then 0 else 1 := j38 hbv hb1
          have go : ∀ (v : Int32) (x4 : Option Value), v = (if e.2 lt = 0 ∨ e1.2 lt = 0 then 0 else 1) → wq G (0, 0) (d + 1) 189 18 [some (.ref 58), some (.int y1), some (.int y2), some (.int v), x4] [] (0, 0) (HP (rpS hi p1 (-1) dp) hl f dr t) Q := by
            intro v x4 h
            rw [h, ← hv]
            exact ih p1 (exOp (0 - 38) e e1) x4 hpgq.2.1 (by have := hpgq.1; omega) (by rw [hv]; exact BV10) hQ hF
          refine wq_iload_n q189_51 rfl ?_
          refine wq_if_eq q189_52 (fun c52 => ?_) (fun c52 => ?_)
          · refine wq_iconst q189_64 ?_
            refine wq_istore_n (ls' := [_, _, _, _, _]) q189_65 rfl ?_
            refine wq_goto q189_66 ?_
            exact go _ _ (by rw [if_pos (Or.inl c52)])
          · refine wq_iload q189_55 rfl ?_
            refine wq_if_eq q189_57 (fun c57 => ?_) (fun c57 => ?_)
            · refine wq_iconst q189_64 ?_
              refine wq_istore_n (ls' := [_, _, _, _, _]) q189_65 rfl ?_
              refine wq_goto q189_66 ?_
              exact go _ _ (by rw [if_pos (Or.inr c57)])
            · refine wq_iconst q189_60 ?_
              refine wq_goto q189_61 ?_
              refine wq_istore_n (ls' := [_, _, _, _, _]) q189_65 rfl ?_
              refine wq_goto q189_66 ?_
              exact go _ _ (by rw [if_neg (by rintro (z | z); exact c52 z; exact c57 z)])
        · refine wq_istore (ls' := [_, _, _, _, _]) q189_49 rfl ?_
          rw [h1] at hF hpgq
          have hq1 : q1 ≤ L := hpgq
          have go : ∀ (v : Int32) (x4 : Option Value), BVp v → wq G (0, 0) (d + 1) 189 18 [some (.ref 58), some (.int y1), some (.int y2), some (.int v), x4] [] (0, 0) (HP (rpS hi p1 (nI q1) dp1) hl f dr t) Q := by
            intro v x4 h
            refine wq_aload_n q189_18 rfl ?_
            refine wq_getI q189_19 rfl rfl ?_
            refine wq_iconst q189_22 ?_
            refine wq_icmp_ne q189_23 (fun c23 => ?_) (fun c23 => ?_)
            · refine wq_iload_n q189_69 rfl ?_
              refine rI q189_70 (narB h) ?_
              exact hF _ _ _ _ rfl hp1 h
            · exact absurd c23 (nI_nm1 (by omega))
          refine wq_iload_n q189_51 rfl ?_
          refine wq_if_eq q189_52 (fun c52 => ?_) (fun c52 => ?_)
          · refine wq_iconst q189_64 ?_
            refine wq_istore_n (ls' := [_, _, _, _, _]) q189_65 rfl ?_
            refine wq_goto q189_66 ?_
            exact go _ _ (Or.inl rfl)
          · refine wq_iload q189_55 rfl ?_
            refine wq_if_eq q189_57 (fun c57 => ?_) (fun c57 => ?_)
            · refine wq_iconst q189_64 ?_
              refine wq_istore_n (ls' := [_, _, _, _, _]) q189_65 rfl ?_
              refine wq_goto q189_66 ?_
              exact go _ _ (Or.inl rfl)
            · refine wq_iconst q189_60 ?_
              refine wq_goto q189_61 ?_
              refine wq_istore_n (ls' := [_, _, _, _, _]) q189_65 rfl ?_
              refine wq_goto q189_66 ?_
              exact go _ _ (Or.inr rfl)
theorem c_rpart {sub : Nat → PR Ex} {D : Nat} (hT : RT hi t bg L N b) (hpg : PGf L D sub) (hsub : RX G d hl f dr t hi L lt BVp dp 188 [.ref 58] sub) : RX G (d + 1) hl f dr t hi L lt BVp dp 189 [.ref 58, .int 0, .int 0] (fun p => pB (sub p) (pLoop b L is38 sub 240)) := by
  intro p Q hp hQ hF
  have hLm := hT.2.1
  have hpgp := hpg p hp
  refine Ct_of (ls := [_, _, _, _, _]) m_189.1.2.2.1 (Nat.le_of_ble_eq_true rfl) rfl ?_
  refine wq_iload_n q189_0 rfl ?_
  refine wq_if_eq q189_1 (fun c1 => ?_) (fun c1 => ?_)
  · refine wq_aload_n q189_13 rfl ?_
    refine cV (As := []) q189_14 m_188 rfl rfl rfl ⟨by decide, rfl⟩ rfl (hsub p _ hp (fun p1 e1 h1 hb1 => ?_) (fun q1 p1 dp1 v1 h1 hp1 hb1 => ?_))
    · refine wq_istore_n (ls' := [_, _, _, _, _]) q189_17 rfl ?_
      dsimp only at hQ hF
      rw [h1] at hQ hF hpgp
      exact c_rpart_loop hT hpg hsub 240 p1 e1 _ hpgp.2.1 (by omega) hb1 hQ hF
    · refine wq_istore_n (ls' := [_, _, _, _, _]) q189_17 rfl ?_
      dsimp only at hF
      rw [h1] at hF hpgp
      have hq1 : q1 ≤ L := hpgp
      refine wq_aload_n q189_18 rfl ?_
      refine wq_getI q189_19 rfl rfl ?_
      refine wq_iconst q189_22 ?_
      refine wq_icmp_ne q189_23 (fun c23 => ?_) (fun c23 => ?_)
      · refine wq_iload_n q189_69 rfl ?_
        refine rI q189_70 (narB hb1) ?_
        exact hF _ _ _ _ rfl hp1 hb1
      · exact absurd c23 (nI_nm1 (by omega))
  · exact absurd rfl c1
theorem c_rpartB {lv : Nat} {sub : Nat → PR Ex} {D : Nat} (hT : RT hi t bg L N b) (hpg : PGf L D sub) (hsub : RX G d hl f dr t hi L lt BVp dp 188 [.ref 58] sub) (hB : RXB G d hl f dr t hi L lt BVp dp 187 (pCmp b L lv)) (hpc : ∀ p e q, p ≤ L → pCmp b L lv p e = .inl q → q ≤ L) (hpd : ∀ p e p' e', p ≤ L → pCmp b L lv p e = .inr (p', e') → p' ≤ L) : RXB G (d + 1) hl f dr t hi L lt BVp dp 189 (fun p e => pB (pCmp b L lv p e) (pLoop b L is38 sub 240)) := by
  intro p e Q hp hQ hF
  have hLm := hT.2.1
  refine Ct_of (ls := [_, _, _, _, _]) m_189.1.2.2.1 (Nat.le_of_ble_eq_true rfl) rfl ?_
  refine wq_iload_n q189_0 rfl ?_
  refine wq_if_eq q189_1 (fun c1 => ?_) (fun c1 => ?_)
  · exact absurd c1 (by decide)
  · refine wq_aload_n q189_4 rfl ?_
    refine wq_iconst q189_5 ?_
    refine wq_iload_n q189_6 rfl ?_
    refine cV (As := [_, _]) q189_7 m_187 rfl rfl rfl ⟨by decide, rfl⟩ rfl (hB p e _ hp (fun p1 e1 h1 hb1 => ?_) (fun q1 p1 dp1 v1 h1 hp1 hb1 => ?_))
    · refine wq_goto q189_10 ?_
      refine wq_istore_n (ls' := [_, _, _, _, _]) q189_17 rfl ?_
      dsimp only at hQ hF
      rw [h1] at hQ hF
      exact c_rpart_loop hT hpg hsub 240 p1 e1 _ (hpd p e p1 e1 hp h1) (by omega) hb1 hQ hF
    · refine wq_goto q189_10 ?_
      refine wq_istore_n (ls' := [_, _, _, _, _]) q189_17 rfl ?_
      dsimp only at hF
      rw [h1] at hF
      have hq1 := hpc p e q1 hp h1
      refine wq_aload_n q189_18 rfl ?_
      refine wq_getI q189_19 rfl rfl ?_
      refine wq_iconst q189_22 ?_
      refine wq_icmp_ne q189_23 (fun c23 => ?_) (fun c23 => ?_)
      · refine wq_iload_n q189_69 rfl ?_
        refine rI q189_70 (narB hb1) ?_
        exact hF _ _ _ _ rfl hp1 hb1
      · exact absurd c23 (nI_nm1 (by omega))
theorem c_rcond_loop {sub : Nat → PR Ex} {D : Nat} {y1 y2 : Int32} (hT : RT hi t bg L N b) (hpg : PGf L D sub) (hsub : RX G d hl f dr t hi L lt BVp dp 189 [.ref 58, .int 0, .int 0] sub) :
    ∀ (m p : Nat) (e : Ex) (x4 : Option Value), p ≤ L → L ≤ p + m → BVp (e.2 lt) →
    (∀ p' e', pLoop b L is124 sub m p e = .inr (p', e') → BVp (e'.2 lt) → Q (some (.int (e'.2 lt))) (HP (rpS hi p' (-1) dp) hl f dr t)) →
    (∀ q p' dp' v, pLoop b L is124 sub m p e = .inl q → p' ≤ L → BVp v → Q (some (.int v)) (HP (rpS hi p' (nI q) dp') hl f dr t)) →
    wq G (0, 0) (d + 1) 190 7 [some (.ref 58), some (.int y1), some (.int y2), some (.int (e.2 lt)), x4] [] (0, 0) (HP (rpS hi p (-1) dp) hl f dr t) Q := by
  have hLm := hT.2.1
  intro m
  induction m with
  | zero =>
    intro p e x4 hp hm hbv hQ hF
    obtain rfl : p = L := by omega
    have e11 : hI (HP (rpS hi p (-1) dp) hl f dr t) 58 11 = -1 := rfl
    refine wq_aload_n q190_7 rfl ?_
    refine wq_getI q190_8 rfl rfl ?_
    refine wq_iconst q190_11 ?_
    refine wq_icmp_ne q190_12 (fun c12 => ?_) (fun c12 => ?_)
    · exact absurd e11 c12
    · refine wq_aload_n q190_15 rfl ?_
      refine cV (As := []) q190_16 m_177 rfl rfl rfl ⟨by decide, rfl⟩ rfl (c_rlook hT (Nat.le_refl _) ?_)
      refine wq_bipush q190_19 ?_
      refine wq_icmp_ne q190_21 (fun c21 => ?_) (fun c21 => ?_)
      · rw [tpSkip_L]
        refine wq_iload_n q190_60 rfl ?_
        refine rI q190_61 (narB hbv) ?_
        exact hQ _ e rfl hbv
      · rw [tpSkip_L, tat_L] at c21
        exact absurd c21 (by decide)
  | succ m ih =>
    intro p e x4 hp hm hbv hQ hF
    have hs := tpSkip_le (b := b) hp
    have e11 : hI (HP (rpS hi p (-1) dp) hl f dr t) 58 11 = -1 := rfl
    generalize hq : tpSkip b L p = q at hs
    generalize hc : tat b L q = c
    have hpl : pLoop b L is124 sub (m + 1) p e = if is124 c = true then pB (sub (q + 1)) (fun p' e' => pLoop b L is124 sub m p' (exOp (0 - c) e e')) else pok q e := by
      rw [pLoop, hq, hc]
    rw [hpl] at hQ hF
    refine wq_aload_n q190_7 rfl ?_
    refine wq_getI q190_8 rfl rfl ?_
    refine wq_iconst q190_11 ?_
    refine wq_icmp_ne q190_12 (fun c12 => ?_) (fun c12 => ?_)
    · exact absurd e11 c12
    · refine wq_aload_n q190_15 rfl ?_
      refine cV (As := []) q190_16 m_177 rfl rfl rfl ⟨by decide, rfl⟩ rfl (c_rlook hT hp ?_)
      refine wq_bipush q190_19 ?_
      refine wq_icmp_ne q190_21 (fun c21 => ?_) (fun c21 => ?_)
      · rw [hq, hc] at c21
        rw [hq]
        rw [if_neg (by simp [is124, c21])] at hQ
        refine wq_iload_n q190_60 rfl ?_
        refine rI q190_61 (narB hbv) ?_
        exact hQ _ e rfl hbv
      · rw [hq, hc] at c21
        subst c21
        rw [if_pos (by rfl)] at hQ hF
        rw [hq]
        have hlt : q < L := tat_lt hc (by decide)
        have hpgq := hpg (q + 1) (by omega)
        have e10 : hI (HP (rpS hi q (-1) dp) hl f dr t) 58 10 = nI q := rfl
        refine wq_aload_n q190_24 rfl ?_
        refine wq_dup q190_25 rfl ?_
        refine wq_getI q190_26 rfl rfl ?_
        refine wq_iconst q190_29 ?_
        refine wq_iadd q190_30 ?_
        refine wq_putI q190_31 rfl rfl rfl rfl ?_
        rw [e10, nI_1, hpS, rpS_p]
        refine wq_aload_n q190_34 rfl ?_
        refine wq_iconst q190_35 ?_
        refine wq_iconst q190_36 ?_
        refine cV (As := [_, _]) q190_37 m_189 rfl rfl rfl ⟨by decide, rfl⟩ rfl (hsub (q + 1) _ (by omega) (fun p1 e1 h1 hb1 => ?_) (fun q1 p1 dp1 v1 h1 hp1 hb1 => ?_))
        · refine wq_istore (ls' := [_, _, _, _, _]) q190_40 rfl ?_
          rw [h1] at hQ hF hpgq
          have hv : (exOp (0 - 124) e e1).2 lt = if e.2 lt = 0 ∧ e1.2 lt = 0 then 0 else 1 := j124 hbv hb1
          have go : ∀ (v : Int32) (x4 : Option Value), v = (if e.2 lt = 0 ∧ e1.2 lt = 0 then 0 else 1) → wq G (0, 0) (d + 1) 190 7 [some (.ref 58), some (.int y1), some (.int y2), some (.int v), x4] [] (0, 0) (HP (rpS hi p1 (-1) dp) hl f dr t) Q := by
            intro v x4 h
            rw [h, ← hv]
            exact ih p1 (exOp (0 - 124) e e1) x4 hpgq.2.1 (by have := hpgq.1; omega) (by rw [hv]; exact BV10) hQ hF
          refine wq_iload_n q190_42 rfl ?_
          refine wq_if_ne q190_43 (fun c43 => ?_) (fun c43 => ?_)
          · refine wq_iconst q190_51 ?_
            refine wq_goto q190_52 ?_
            refine wq_istore_n (ls' := [_, _, _, _, _]) q190_56 rfl ?_
            refine wq_goto q190_57 ?_
            exact go _ _ (by rw [if_neg (fun z => c43 z.1)])
          · refine wq_iload q190_46 rfl ?_
            refine wq_if_eq q190_48 (fun c48 => ?_) (fun c48 => ?_)
            · refine wq_iconst q190_55 ?_
              refine wq_istore_n (ls' := [_, _, _, _, _]) q190_56 rfl ?_
              refine wq_goto q190_57 ?_
              exact go _ _ (by rw [if_pos ⟨c43, c48⟩])
            · refine wq_iconst q190_51 ?_
              refine wq_goto q190_52 ?_
              refine wq_istore_n (ls' := [_, _, _, _, _]) q190_56 rfl ?_
              refine wq_goto q190_57 ?_
              exact go _ _ (by rw [if_neg (fun z => c48 z.2)])
        · refine wq_istore (ls' := [_, _, _, _, _]) q190_40 rfl ?_
          rw [h1] at hF hpgq
          have hq1 : q1 ≤ L := hpgq
          have go : ∀ (v : Int32) (x4 : Option Value), BVp v → wq G (0, 0) (d + 1) 190 7 [some (.ref 58), some (.int y1), some (.int y2), some (.int v), x4] [] (0, 0) (HP (rpS hi p1 (nI q1) dp1) hl f dr t) Q := by
            intro v x4 h
            refine wq_aload_n q190_7 rfl ?_
            refine wq_getI q190_8 rfl rfl ?_
            refine wq_iconst q190_11 ?_
            refine wq_icmp_ne q190_12 (fun c12 => ?_) (fun c12 => ?_)
            · refine wq_iload_n q190_60 rfl ?_
              refine rI q190_61 (narB h) ?_
              exact hF _ _ _ _ rfl hp1 h
            · exact absurd c12 (nI_nm1 (by omega))
          refine wq_iload_n q190_42 rfl ?_
          refine wq_if_ne q190_43 (fun c43 => ?_) (fun c43 => ?_)
          · refine wq_iconst q190_51 ?_
            refine wq_goto q190_52 ?_
            refine wq_istore_n (ls' := [_, _, _, _, _]) q190_56 rfl ?_
            refine wq_goto q190_57 ?_
            exact go _ _ (Or.inr rfl)
          · refine wq_iload q190_46 rfl ?_
            refine wq_if_eq q190_48 (fun c48 => ?_) (fun c48 => ?_)
            · refine wq_iconst q190_55 ?_
              refine wq_istore_n (ls' := [_, _, _, _, _]) q190_56 rfl ?_
              refine wq_goto q190_57 ?_
              exact go _ _ (Or.inl rfl)
            · refine wq_iconst q190_51 ?_
              refine wq_goto q190_52 ?_
              refine wq_istore_n (ls' := [_, _, _, _, _]) q190_56 rfl ?_
              refine wq_goto q190_57 ?_
              exact go _ _ (Or.inr rfl)
theorem c_rcond {sub : Nat → PR Ex} {D : Nat} (hT : RT hi t bg L N b) (hpg : PGf L D sub) (hsub : RX G d hl f dr t hi L lt BVp dp 189 [.ref 58, .int 0, .int 0] sub) : RX G (d + 1) hl f dr t hi L lt BVp dp 190 [.ref 58, .int 0, .int 0] (fun p => pB (sub p) (pLoop b L is124 sub 240)) := by
  intro p Q hp hQ hF
  have hLm := hT.2.1
  have hpgp := hpg p hp
  refine Ct_of (ls := [_, _, _, _, _]) m_190.1.2.2.1 (Nat.le_of_ble_eq_true rfl) rfl ?_
  refine wq_aload_n q190_0 rfl ?_
  refine wq_iload_n q190_1 rfl ?_
  refine wq_iload_n q190_2 rfl ?_
  refine cV (As := [_, _]) q190_3 m_189 rfl rfl rfl ⟨by decide, rfl⟩ rfl (hsub p _ hp (fun p1 e1 h1 hb1 => ?_) (fun q1 p1 dp1 v1 h1 hp1 hb1 => ?_))
  · refine wq_istore_n (ls' := [_, _, _, _, _]) q190_6 rfl ?_
    dsimp only at hQ hF
    rw [h1] at hQ hF hpgp
    exact c_rcond_loop hT hpg hsub 240 p1 e1 _ hpgp.2.1 (by omega) hb1 hQ hF
  · refine wq_istore_n (ls' := [_, _, _, _, _]) q190_6 rfl ?_
    dsimp only at hF
    rw [h1] at hF hpgp
    have hq1 : q1 ≤ L := hpgp
    refine wq_aload_n q190_7 rfl ?_
    refine wq_getI q190_8 rfl rfl ?_
    refine wq_iconst q190_11 ?_
    refine wq_icmp_ne q190_12 (fun c12 => ?_) (fun c12 => ?_)
    · refine wq_iload_n q190_60 rfl ?_
      refine rI q190_61 (narB hb1) ?_
      exact hF _ _ _ _ rfl hp1 hb1
    · exact absurd c12 (nI_nm1 (by omega))
theorem c_rcondB {par : Nat → Ex → PR Ex} {sub : Nat → PR Ex} {D : Nat} (hT : RT hi t bg L N b) (hpg : PGf L D sub) (hsub : RX G d hl f dr t hi L lt BVp dp 189 [.ref 58, .int 0, .int 0] sub) (hB : RXB G d hl f dr t hi L lt BVp dp 189 par) (hpc : ∀ p e q, p ≤ L → par p e = .inl q → q ≤ L) (hpd : ∀ p e p' e', p ≤ L → par p e = .inr (p', e') → p' ≤ L) : RXB G (d + 1) hl f dr t hi L lt BVp dp 190 (fun p e => pB (par p e) (pLoop b L is124 sub 240)) := by
  intro p e Q hp hQ hF
  have hLm := hT.2.1
  refine Ct_of (ls := [_, _, _, _, _]) m_190.1.2.2.1 (Nat.le_of_ble_eq_true rfl) rfl ?_
  refine wq_aload_n q190_0 rfl ?_
  refine wq_iload_n q190_1 rfl ?_
  refine wq_iload_n q190_2 rfl ?_
  refine cV (As := [_, _]) q190_3 m_189 rfl rfl rfl ⟨by decide, rfl⟩ rfl (hB p e _ hp (fun p1 e1 h1 hb1 => ?_) (fun q1 p1 dp1 v1 h1 hp1 hb1 => ?_))
  · refine wq_istore_n (ls' := [_, _, _, _, _]) q190_6 rfl ?_
    dsimp only at hQ hF
    rw [h1] at hQ hF
    exact c_rcond_loop hT hpg hsub 240 p1 e1 _ (hpd p e p1 e1 hp h1) (by omega) hb1 hQ hF
  · refine wq_istore_n (ls' := [_, _, _, _, _]) q190_6 rfl ?_
    dsimp only at hF
    rw [h1] at hF
    have hq1 := hpc p e q1 hp h1
    refine wq_aload_n q190_7 rfl ?_
    refine wq_getI q190_8 rfl rfl ?_
    refine wq_iconst q190_11 ?_
    refine wq_icmp_ne q190_12 (fun c12 => ?_) (fun c12 => ?_)
    · refine wq_iload_n q190_60 rfl ?_
      refine rI q190_61 (narB hb1) ?_
      exact hF _ _ _ _ rfl hp1 hb1
    · exact absurd c12 (nI_nm1 (by omega))
theorem c_runit {lv : Nat} (hT : RT hi t bg L N b) (hlv : lv ≤ 6) (hcmp : RX G (d + 2) hl f dr t hi L lt BVp (nI (6 - lv)) 187 [.ref 58, .int 0, .int 0] (fun p => pB (pSum b L lv p) (pCmp b L lv)))
    (hU : ∀ l, lv = l + 1 → RX G (d + 2) hl f dr t hi L lt BVp (nI (6 - l)) 188 [.ref 58] (pUnit b L l)) (hC : ∀ l, lv = l + 1 → RX G (d + 2) hl f dr t hi L lt BVp (nI (6 - l)) 190 [.ref 58, .int 0, .int 0] (pCon b L (pUnit b L l))) :
    RX G (d + 3) hl f dr t hi L lt BVp (nI (6 - lv)) 188 [.ref 58] (pUnit b L lv) := by
  intro p Q hp hQ hF
  have hLm := hT.2.1
  have hs := tpSkip_le (b := b) hp
  have hid := tpSkip_id (b := b) hp
  have dp0 : nI (6 - lv) = 6 → lv = 0 := fun hx => by
    rw [show (6 : Int32) = nI 6 from rfl, nI_eq (by omega) (by omega)] at hx
    omega
  have dp1 : ¬ nI (6 - lv) = 6 → ∃ l, lv = l + 1 := fun hx => ⟨lv - 1, by
    have : lv ≠ 0 := fun z => hx (by subst z; rfl)
    omega⟩
  refine Ct_of (ls := [_, _, _]) m_188.1.2.2.1 (Nat.le_of_ble_eq_true rfl) rfl ?_
  refine wq_aload_n q188_0 rfl ?_
  refine cV (As := []) q188_1 m_177 rfl rfl rfl ⟨by decide, rfl⟩ rfl (c_rlook hT hp ?_)
  refine wq_istore_n (ls' := [_, _, _]) q188_4 rfl ?_
  generalize hq : tpSkip b L p = q at hs hid
  generalize hc : tat b L q = c
  have hpu : pUnit b L lv p = (if c = 33 then (match pInu b L lv with
      | none => pno q
      | some f => pB (f.1 (q + 1)) (fun p' e => pok p' (exNt e)))
    else if c = 40 then (match pInu b L lv with
      | none => pno q
      | some f => pB (f.2 (q + 1)) (fun p' e => pEnd b L 41 p' e))
    else pB (pSum b L lv q) (pCmp b L lv)) := by
    rw [pUnit_I]
    unfold pUnitI
    rw [hq, hc]
    rfl
  rw [hpu] at hQ hF
  refine wq_iload_n q188_5 rfl ?_
  refine wq_bipush q188_6 ?_
  refine wq_icmp_ne q188_8 (fun c8 => ?_) (fun c8 => ?_)
  · rw [if_neg c8] at hQ hF
    refine wq_iload_n q188_45 rfl ?_
    refine wq_bipush q188_46 ?_
    refine wq_icmp_ne q188_48 (fun c48 => ?_) (fun c48 => ?_)
    · rw [if_neg c48] at hQ hF
      refine wq_aload_n q188_90 rfl ?_
      refine wq_iconst q188_91 ?_
      refine wq_iconst q188_92 ?_
      refine cV (As := [_, _]) q188_93 m_187 rfl rfl rfl ⟨by decide, rfl⟩ rfl (hcmp q _ hs.2 (fun p1 e1 h1 hb1 => ?_) (fun q1 p1 dp1 v1 h1 hp1 hb1 => ?_))
      · refine rI q188_96 (narB hb1) ?_
        exact hQ p1 e1 h1 hb1
      · refine rI q188_96 (narB hb1) ?_
        exact hF q1 p1 dp1 v1 h1 hp1 hb1
    · subst c48
      rw [if_pos rfl] at hQ hF
      have hlt' : q < L := tat_lt hc (by decide)
      refine wq_aload_n q188_51 rfl ?_
      refine cV (As := []) q188_52 m_179 rfl rfl rfl ⟨by decide, rfl⟩ rfl (c_rgoesIn (fun hx => ?_) (fun hx => ?_))
      · have hl0 := dp0 hx
        subst hl0
        refine wq_if_ne q188_55 (fun c55 => ?_) (fun c55 => ?_)
        · exact absurd rfl c55
        · refine wq_iconst q188_58 ?_
          refine rI q188_59 rfl ?_
          rw [tpF, if_pos rfl]
          exact hF q q _ _ rfl hs.2 (Or.inl rfl)
      · obtain ⟨l, rfl⟩ := dp1 hx
        have hQ : ∀ p' e, pB (pCon b L (pUnit b L l) (q + 1)) (fun p' e => pEnd b L 41 p' e) = .inr (p', e) → BVp (e.2 lt) → Q (some (.int (e.2 lt))) (HP (rpS hi p' (-1) (nI (6 - (l + 1)))) hl f dr t) := hQ
        have hF : ∀ q_1 p' dp' v, pB (pCon b L (pUnit b L l) (q + 1)) (fun p' e => pEnd b L 41 p' e) = .inl q_1 → p' ≤ L → BVp v → Q (some (.int v)) (HP (rpS hi p' (nI q_1) dp') hl f dr t) := hF
        have edp : nI (6 - (l + 1)) + 1 = nI (6 - l) := by rw [nI_1]; congr 1; omega
        rw [edp]
        have hpg := pCon_ok (b := b) (pUnit_ok (b := b) (L := L) l) (q + 1) (by omega)
        refine wq_if_ne q188_55 (fun c55 => ?_) (fun c55 => ?_)
        · refine wq_aload_n q188_60 rfl ?_
          refine wq_iconst q188_61 ?_
          refine wq_iconst q188_62 ?_
          refine cV (As := [_, _]) q188_63 m_190 rfl rfl rfl ⟨by decide, rfl⟩ rfl (hC l rfl (q + 1) _ (by omega) (fun p1 e1 h1 hb1 => ?_) (fun q1 p1 dp1 v1 h1 hp1 hb1 => ?_))
          · rw [h1] at hQ hF hpg
            have hp1 : p1 ≤ L := hpg.2.1
            refine wq_istore_n (ls' := [_, _, _]) q188_66 rfl ?_
            refine wq_aload_n q188_67 rfl ?_
            refine wq_bipush q188_68 ?_
            refine cV (As := [_]) q188_70 m_180 rfl rfl rfl ⟨by decide, rfl⟩ rfl (c_rtakes hT hp1 (fun _ z => ?_) (fun _ z => ?_) (fun z => ?_))
            · refine wq_if_ne q188_73 (fun c73 => ?_) (fun c73 => ?_)
              · have e12 : hI (HP (rpS hi (tpSkip b L p1 + 1) (-1) (nI (6 - l))) hl f dr t) 58 12 = nI (6 - l) := rfl
                refine wq_aload_n q188_78 rfl ?_
                refine wq_dup q188_79 rfl ?_
                refine wq_getI q188_80 rfl rfl ?_
                refine wq_iconst q188_83 ?_
                refine wq_isub q188_84 ?_
                refine wq_putI q188_85 rfl rfl rfl rfl ?_
                refine wq_iload_n q188_88 rfl ?_
                refine rI q188_89 (narB hb1) ?_
                rw [e12, hpS, rpS_d, ← edp, show nI (6 - (l + 1)) + 1 - 1 = nI (6 - (l + 1)) by rw [nI_1]; exact nI_pred _]
                exact hQ _ e1 (by show pEnd b L 41 p1 e1 = _; unfold pEnd; rw [if_pos z]) hb1
              · exact absurd c73 (by decide)
            · refine wq_if_ne q188_73 (fun c73 => ?_) (fun c73 => ?_)
              · exact absurd rfl c73
              · refine wq_iconst q188_76 ?_
                refine rI q188_77 rfl ?_
                exact hF _ _ _ _ (by show pEnd b L 41 p1 e1 = _; unfold pEnd; rw [if_neg z]) (tpSkip_le hp1).2 (Or.inl rfl)
            · exact absurd rfl z
          · rw [h1] at hF hpg
            have hq1 : q1 ≤ L := hpg
            refine wq_istore_n (ls' := [_, _, _]) q188_66 rfl ?_
            refine wq_aload_n q188_67 rfl ?_
            refine wq_bipush q188_68 ?_
            refine cV (As := [_]) q188_70 m_180 rfl rfl rfl ⟨by decide, rfl⟩ rfl (c_rtakes hT hp1 (fun z => ?_) (fun z => ?_) (fun z => ?_))
            · exact absurd z (nI_nm1 (by omega))
            · exact absurd z (nI_nm1 (by omega))
            · refine wq_if_ne q188_73 (fun c73 => ?_) (fun c73 => ?_)
              · exact absurd rfl c73
              · refine wq_iconst q188_76 ?_
                refine rI q188_77 rfl ?_
                exact hF _ _ _ _ rfl hp1 (Or.inl rfl)
        · exact absurd c55 (by decide)
  · subst c8
    rw [if_pos rfl] at hQ hF
    have hlt' : q < L := tat_lt hc (by decide)
    refine wq_aload_n q188_11 rfl ?_
    refine cV (As := []) q188_12 m_179 rfl rfl rfl ⟨by decide, rfl⟩ rfl (c_rgoesIn (fun hx => ?_) (fun hx => ?_))
    · have hl0 := dp0 hx
      subst hl0
      refine wq_if_ne q188_15 (fun c15 => ?_) (fun c15 => ?_)
      · exact absurd rfl c15
      · refine wq_iconst q188_18 ?_
        refine rI q188_19 rfl ?_
        rw [tpF, if_pos rfl]
        exact hF q q _ _ rfl hs.2 (Or.inl rfl)
    · obtain ⟨l, rfl⟩ := dp1 hx
      have hQ : ∀ p' e, pB (pUnit b L l (q + 1)) (fun p' e => pok p' (exNt e)) = .inr (p', e) → BVp (e.2 lt) → Q (some (.int (e.2 lt))) (HP (rpS hi p' (-1) (nI (6 - (l + 1)))) hl f dr t) := hQ
      have hF : ∀ q_1 p' dp' v, pB (pUnit b L l (q + 1)) (fun p' e => pok p' (exNt e)) = .inl q_1 → p' ≤ L → BVp v → Q (some (.int v)) (HP (rpS hi p' (nI q_1) dp') hl f dr t) := hF
      have edp : nI (6 - (l + 1)) + 1 = nI (6 - l) := by rw [nI_1]; congr 1; omega
      rw [edp]
      refine wq_if_ne q188_15 (fun c15 => ?_) (fun c15 => ?_)
      · refine wq_aload_n q188_20 rfl ?_
        refine cV (As := []) q188_21 m_188 rfl rfl rfl ⟨by decide, rfl⟩ rfl (hU l rfl (q + 1) _ (by omega) (fun p1 e1 h1 hb1 => ?_) (fun q1 p1 dp1 v1 h1 hp1 hb1 => ?_))
        · refine wq_istore_n (ls' := [_, _, _]) q188_24 rfl ?_
          rw [h1] at hQ
          have e12 : hI (HP (rpS hi p1 (-1) (nI (6 - l))) hl f dr t) 58 12 = nI (6 - l) := rfl
          have hQ' := hQ p1 (exNt e1) rfl
          have ev : (exNt e1).2 lt = 1 - e1.2 lt := rfl
          rw [ev] at hQ'
          refine wq_aload_n q188_25 rfl ?_
          refine wq_dup q188_26 rfl ?_
          refine wq_getI q188_27 rfl rfl ?_
          refine wq_iconst q188_30 ?_
          refine wq_isub q188_31 ?_
          refine wq_putI q188_32 rfl rfl rfl rfl ?_
          rw [e12, hpS, rpS_d, ← edp, show nI (6 - (l + 1)) + 1 - 1 = nI (6 - (l + 1)) by rw [nI_1]; exact nI_pred _]
          rcases hb1 with z | z
          · rw [z] at hQ' ⊢
            refine wq_iload_n q188_35 rfl ?_
            refine wq_if_ne q188_36 (fun c36 => ?_) (fun c36 => ?_)
            · exact absurd rfl c36
            · refine wq_iconst q188_39 ?_
              refine wq_goto q188_40 ?_
              refine rI q188_44 rfl ?_
              exact hQ' (Or.inr rfl)
          · rw [z] at hQ' ⊢
            refine wq_iload_n q188_35 rfl ?_
            refine wq_if_ne q188_36 (fun c36 => ?_) (fun c36 => ?_)
            · refine wq_iconst q188_43 ?_
              refine rI q188_44 rfl ?_
              exact hQ' (Or.inl rfl)
            · exact absurd c36 (by decide)
        · refine wq_istore_n (ls' := [_, _, _]) q188_24 rfl ?_
          rw [h1] at hF
          refine wq_aload_n q188_25 rfl ?_
          refine wq_dup q188_26 rfl ?_
          refine wq_getI q188_27 rfl rfl ?_
          refine wq_iconst q188_30 ?_
          refine wq_isub q188_31 ?_
          refine wq_putI q188_32 rfl rfl rfl rfl ?_
          rw [hpS, rpS_d]
          refine wq_iload_n q188_35 rfl ?_
          refine wq_if_ne q188_36 (fun c36 => ?_) (fun c36 => ?_)
          · refine wq_iconst q188_43 ?_
            refine rI q188_44 rfl ?_
            exact hF _ _ _ _ rfl hp1 (Or.inl rfl)
          · refine wq_iconst q188_39 ?_
            refine wq_goto q188_40 ?_
            refine rI q188_44 rfl ?_
            exact hF _ _ _ _ rfl hp1 (Or.inr rfl)
      · exact absurd c15 (by decide)
theorem c_rUp {lv : Nat} (hT : RT hi t bg L N b) (h : RX G (d + 9 + 3 * lv) hl f dr t hi L lt BVp dp 188 [.ref 58] (pUnit b L lv)) : RX G (d + 10 + 3 * lv) hl f dr t hi L lt BVp dp 189 [.ref 58, .int 0, .int 0] (pTru b L (pUnit b L lv)) ∧ RX G (d + 11 + 3 * lv) hl f dr t hi L lt BVp dp 190 [.ref 58, .int 0, .int 0] (pCon b L (pUnit b L lv)) := by
  have h1 := c_rpart hT (pUnit_ok (b := b) (L := L) lv) h
  have h2 := c_rcond hT (pTru_ok (pUnit_ok (b := b) (L := L) lv)) h1
  refine ⟨?_, ?_⟩
  · rw [show d + 10 + 3 * lv = d + 9 + 3 * lv + 1 by omega]
    exact h1
  · rw [show d + 11 + 3 * lv = d + 9 + 3 * lv + 1 + 1 by omega]
    exact h2
theorem c_rUC (hT : RT hi t bg L N b) (hlt : ∀ k, k < 6 → lt k = hi 62 (cB 3 k).toNatClampNeg) : ∀ lv, lv ≤ 6 → ∀ d, RX G (d + 9 + 3 * lv) hl f dr t hi L lt BVp (nI (6 - lv)) 188 [.ref 58] (pUnit b L lv) := by
  intro lv
  induction lv with
  | zero =>
    intro hlv d
    have hs := c_rsum (G := G) (d := d) (hl := hl) (f := f) (dr := dr) hT hlt 0 hlv
    have hc := c_rcmp hT (by omega) hs
    exact c_runit (d := d + 6) hT hlv hc (fun l h => by omega) (fun l h => by omega)
  | succ lv ih =>
    intro hlv d
    have hs := c_rsum (G := G) (d := d) (hl := hl) (f := f) (dr := dr) hT hlt (lv + 1) hlv
    have hc := c_rcmp hT (by omega) hs
    rw [show d + 9 + 3 * (lv + 1) = d + 6 + 3 * (lv + 1) + 3 by omega]
    refine c_runit hT hlv ?_ (fun l h => ?_) (fun l h => ?_)
    · rw [show d + 6 + 3 * (lv + 1) + 2 = d + 7 + 3 * (lv + 1) + 1 by omega]
      exact hc
    · obtain rfl : lv = l := by omega
      have := ih (by omega) (d + 2)
      rw [show d + 6 + 3 * (lv + 1) + 2 = d + 2 + 9 + 3 * lv by omega]
      exact this
    · obtain rfl : lv = l := by omega
      have := (c_rUp hT (ih (by omega) d)).2
      rw [show d + 6 + 3 * (lv + 1) + 2 = d + 11 + 3 * lv by omega]
      exact this
end REFCOND
