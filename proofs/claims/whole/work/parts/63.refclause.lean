/-! THE REFERENCE reads a law: clauses; a whole law -/
def oH : Option Int32 → Int32
  | none => 0
  | some _ => 1
def oV : Option Int32 → Int32
  | none => 0
  | some v => v
/-- what was found so far -/
def fdS (hi : Nat → Nat → Int32) (o : Option Int32) : Nat → Nat → Int32 := up2 (up2 hi 58 17 (oH o)) 58 14 (oV o)
def clV (lt : Nat → Int32) (cl : Cl) : Option Int32 := match cl.1 with
  | none => some (cl.2.2 lt)
  | some e => if e.2 lt = 0 then none else some (cl.2.2 lt)
def clO (lt : Nat → Int32) (o : Option Int32) (cl : Cl) : Option Int32 := match o with
  | some v => some v
  | none => clV lt cl
theorem fdS_o (hi : Nat → Nat → Int32) (o : Option Int32) {a : Nat} (h : a ≠ 58) : fdS hi o a = hi a := by
  unfold fdS
  rw [up2_o _ _ _ h, up2_o _ _ _ h]
theorem fdS_k (hi : Nat → Nat → Int32) (o : Option Int32) {k : Nat} (h : k ≠ 17 ∧ k ≠ 14) : fdS hi o 58 k = hi 58 k := by
  unfold fdS
  rw [up2_s, vu_o _ _ h.2, up2_s, vu_o _ _ h.1]
theorem clO_some (lt : Nat → Int32) (v : Int32) (l : List Cl) : l.foldl (clO lt) (some v) = some v := by
  induction l with
  | nil => rfl
  | cons cl l ih => exact ih
theorem clO_ev (lt : Nat → Int32) (l : List Cl) : oV (l.foldl (clO lt) none) = lawEv lt l := by
  induction l with
  | nil => rfl
  | cons cl l ih =>
    rw [List.foldl_cons]
    obtain ⟨c1, c2⟩ := cl
    cases c1 with
    | none =>
      show oV (l.foldl (clO lt) (some (c2.2 lt))) = c2.2 lt
      rw [clO_some]
      rfl
    | some e =>
      show oV (l.foldl (clO lt) (if e.2 lt = 0 then none else some (c2.2 lt))) = if e.2 lt = 0 then lawEv lt l else c2.2 lt
      by_cases h : e.2 lt = 0
      · rw [if_pos h, if_pos h]
        exact ih
      · rw [if_neg h, if_neg h, clO_some]
        rfl
theorem RT.moved {hi hi' : Nat → Nat → Int32} {t bg L N : Nat} {b : Nat → Int32} (h : RT hi t bg L N b) (h1 : hi' t = hi t) (h2 : hi' 58 8 = hi 58 8) (h3 : hi' 58 9 = hi 58 9) : RT hi' t bg L N b := by
  obtain ⟨a1, a2, a3, a4, a5, a6, a7⟩ := h
  exact ⟨a1, a2, a3, a4, by rw [h2]; exact a5, by rw [h3]; exact a6, fun j hj => by rw [h1]; exact a7 j hj⟩
theorem liO5 {c : Int32} : liO 5 c = -1 ↔ ¬ c = 121 := by
  constructor
  · rintro h rfl
    exact absurd h (by decide)
  · intro h
    rcases liO_nm (j := 5) (x := c) (by decide) with z | ⟨k, k1, k2, k3⟩
    · exact z
    · have hk : k = 0 := by
        have : cN 5 = 1 := rfl
        omega
      subst hk
      exact absurd k3.symm h
section REFCLAUSE
variable {G : ph_G} {d f dr t bg L N p : Nat} {hi : Nat → Nat → Int32} {hl : Nat → Nat → Int64} {fl dp : Int32} {Q : Option Value → ph_H → Prop} {b lt : Nat → Int32}
theorem RT.fd (h : RT hi t bg L N b) (o : Option Int32) : RT (fdS hi o) t bg L N b := h.moved (fdS_o _ _ (h.sh hi (fun _ _ => 0) 0 0 0).2.1) rfl rfl
/-- the end of a clause: its condition and its sum are there -/
theorem c_rclause_end {x4 : Option Value} {isv v : Int32} {o : Option Int32} (hlab : hi 58 13 = 121) (hQ : Q none (HP (rpS (fdS hi (match o with | some v => some v | none => if isv = 0 then none else some v)) p (-1) dp) hl f dr t)) :
    wq G (0, 0) d 191 134 [some (.ref 58), some (.int 121), some (.int isv), some (.int v), x4] [] (0, 0) (HP (rpS (fdS hi o) p (-1) dp) hl f dr t) Q := by
  have e11 : hI (HP (rpS (fdS hi o) p (-1) dp) hl f dr t) 58 11 = -1 := rfl
  have e17 : hI (HP (rpS (fdS hi o) p (-1) dp) hl f dr t) 58 17 = oH o := rfl
  have e13 : hI (HP (rpS (fdS hi o) p (-1) dp) hl f dr t) 58 13 = 121 := hlab
  refine wq_aload_n q191_134 rfl ?_
  refine wq_getI q191_135 rfl rfl ?_
  refine wq_iconst q191_138 ?_
  refine wq_icmp_ne q191_139 (fun c139 => ?_) (fun c139 => ?_)
  · exact absurd e11 c139
  · refine wq_aload_n q191_142 rfl ?_
    refine wq_getI q191_143 rfl rfl ?_
    refine wq_if_ne q191_146 (fun c146 => ?_) (fun c146 => ?_)
    · rw [e17] at c146
      refine rV q191_161 ?_
      cases o with
      | none => exact absurd rfl c146
      | some w => exact hQ
    · rw [e17] at c146
      have ho : o = none := by
        cases o with
        | none => rfl
        | some w => exact absurd (show (1 : Int32) = 0 from c146) (by decide)
      subst ho
      dsimp only at hQ
      refine wq_iload_n q191_149 rfl ?_
      refine wq_aload_n q191_150 rfl ?_
      refine wq_getI q191_151 rfl rfl ?_
      refine wq_icmp_ne q191_154 (fun c154 => ?_) (fun c154 => ?_)
      · exact absurd e13.symm c154
      · refine wq_iload_n q191_157 rfl ?_
        refine wq_if_ne q191_158 (fun c158 => ?_) (fun c158 => ?_)
        · rw [if_neg c158] at hQ
          refine wq_aload_n q191_162 rfl ?_
          refine wq_iconst q191_163 ?_
          refine wq_putI q191_164 rfl rfl rfl rfl ?_
          refine wq_aload_n q191_167 rfl ?_
          refine wq_iload_n q191_168 rfl ?_
          refine wq_putI q191_169 rfl rfl rfl rfl ?_
          refine rV q191_172 ?_
          rw [hpS, hpS, rpS_k _ _ _ _ _ (by decide), rpS_k _ _ _ _ _ (by decide)]
          have : up2 (up2 (fdS hi none) 58 17 1) 58 14 v = fdS hi (some v) := by
            unfold fdS
            rw [up2_comm _ (b := 58) (j := 17) _ _ (Or.inr (by decide)), up2_uu, up2_uu]
            rfl
          rw [this]
          exact hQ
        · rw [if_pos c158] at hQ
          refine rV q191_161 ?_
          exact hQ
theorem c_rclause_bad {x1 x2 x3 x4 : Option Value} {q : Nat} {o : Option Int32} (hq : q ≤ 240) (hQ : Q none (HP (rpS (fdS hi o) p (nI q) dp) hl f dr t)) :
    wq G (0, 0) d 191 134 [some (.ref 58), x1, x2, x3, x4] [] (0, 0) (HP (rpS (fdS hi o) p (nI q) dp) hl f dr t) Q := by
  refine wq_aload_n q191_134 rfl ?_
  refine wq_getI q191_135 rfl rfl ?_
  refine wq_iconst q191_138 ?_
  refine wq_icmp_ne q191_139 (fun c139 => ?_) (fun c139 => ?_)
  · refine rV q191_161 ?_
    exact hQ
  · exact absurd c139 (nI_nm1 (by omega))
theorem c_rclause {o : Option Int32} (hT : RT hi t bg L N b) (hlt : ∀ k, k < 6 → lt k = hi 62 (cB 3 k).toNatClampNeg) (hlab : hi 58 13 = 121) (hp : p ≤ L)
    (hQ : ∀ p' cl, pClause b L p = .inr (p', cl) → Q none (HP (rpS (fdS hi (clO lt o cl)) p' (-1) 0) hl f dr t)) (hF : ∀ q p' dp' o', pClause b L p = .inl q → p' ≤ L → Q none (HP (rpS (fdS hi o') p' (nI q) dp') hl f dr t)) :
    Ct G (0, 0) (d + 30) 191 [.ref 58] (HP (rpS (fdS hi o) p (-1) 0) hl f dr t) Q := by
  have hLm := hT.2.1
  have hT' := hT.fd o
  have hlt' : ∀ k, k < 6 → lt k = fdS hi o 62 (cB 3 k).toNatClampNeg := fun k hk => by rw [fdS_o _ _ (by decide)]; exact hlt k hk
  have hsum : ∀ d, RX G (d + 25) hl f dr t (fdS hi o) L lt TVp (nI (6 - 6)) 185 [.ref 58] (pSum b L 6) := fun d => c_rsum (d := d) hT' hlt' 6 (by omega)
  have hunit := c_rUC (G := G) (hl := hl) (f := f) (dr := dr) hT' hlt' 6 (by omega) d
  obtain ⟨hpart, hcond⟩ := c_rUp hT' hunit
  have hcmpB := c_rcmpB hT' (by omega) (hsum (d + 1))
  have hpcI : ∀ (p : Nat) (e : Ex) (q : Nat), p ≤ L → pCmp b L 6 p e = .inl q → q ≤ L := by
    intro p e q hp h
    unfold pCmp at h
    have hs := tpSkip_le (b := b) hp
    split at h
    · rename_i hc
      have hlt := tat_lt (b := b) (L := L) (p := tpSkip b L p) rfl (isCmp_ok _ hc).1
      have hpg := pSum_ok (b := b) (L := L) 6 (tpSkip b L p + 1) (by omega)
      cases hps : pSum b L 6 (tpSkip b L p + 1) with
      | inl q1 =>
        rw [hps] at h hpg
        cases h
        exact hpg
      | inr z =>
        rw [hps] at h
        cases h
    · cases h
      exact hs.2
  have hpcR : ∀ (p : Nat) (e : Ex) (p' : Nat) (e' : Ex), p ≤ L → pCmp b L 6 p e = .inr (p', e') → p' ≤ L := by
    intro p e p' e' hp h
    unfold pCmp at h
    have hs := tpSkip_le (b := b) hp
    split at h
    · rename_i hc
      have hlt := tat_lt (b := b) (L := L) (p := tpSkip b L p) rfl (isCmp_ok _ hc).1
      have hpg := pSum_ok (b := b) (L := L) 6 (tpSkip b L p + 1) (by omega)
      cases hps : pSum b L 6 (tpSkip b L p + 1) with
      | inl q1 =>
        rw [hps] at h
        cases h
      | inr z =>
        rw [hps] at h hpg
        cases h
        exact hpg.2.1
    · cases h
  have loopI : ∀ (ops : Int32 → Bool) (sub : Nat → PR Ex) (D : Nat), PGf L D sub → (∀ c, ops c = true → ¬ c = -1) → ∀ (m p : Nat) (e : Ex), p ≤ L → (∀ q, pLoop b L ops sub m p e = .inl q → q ≤ L) ∧ (∀ p' e', pLoop b L ops sub m p e = .inr (p', e') → p' ≤ L) := by
    intro ops sub D hpg hops m
    induction m with
    | zero =>
      intro p e hp
      refine ⟨fun q h => ?_, fun p' e' h => ?_⟩
      · cases h
      · cases h
        exact hp
    | succ m ih =>
      intro p e hp
      have hs := tpSkip_le (b := b) hp
      rw [pLoop]
      split
      · rename_i hc
        have hlt := tat_lt (b := b) (L := L) (p := tpSkip b L p) rfl (hops _ hc)
        have hg := hpg (tpSkip b L p + 1) (by omega)
        cases hps : sub (tpSkip b L p + 1) with
        | inl q1 =>
          rw [hps] at hg
          refine ⟨fun q h => ?_, fun p' e' h => ?_⟩
          · cases h
            exact hg
          · cases h
        | inr z =>
          rw [hps] at hg
          exact ih z.1 _ hg.2.1
      · refine ⟨fun q h => ?_, fun p' e' h => ?_⟩
        · cases h
        · cases h
          exact hs.2
  have hpartB : RXB G (d + 27 + 1) hl f dr t (fdS hi o) L lt BVp (nI (6 - 6)) 189 (fun p e => pB (pCmp b L 6 p e) (pLoop b L is38 (pUnit b L 6) 240)) := c_rpartB hT' (pUnit_ok (b := b) (L := L) 6) hunit hcmpB hpcI hpcR
  have hcondB : RXB G (d + 27 + 1 + 1) hl f dr t (fdS hi o) L lt BVp (nI (6 - 6)) 190 (pConB b L 6) := by
    refine c_rcondB hT' (pTru_ok (pUnit_ok (b := b) (L := L) 6)) hpart hpartB ?_ ?_
    · intro p e q hp h
      unfold pTruB at h
      cases hps : pCmp b L 6 p e with
      | inl q1 =>
        rw [hps] at h
        cases h
        exact hpcI p e _ hp hps
      | inr z =>
        rw [hps] at h
        exact (loopI is38 _ _ (pUnit_ok (b := b) (L := L) 6) (fun c hc => (is38_ok c hc).1) 240 z.1 z.2 (hpcR p e _ _ hp hps)).1 q h
    · intro p e p' e' hp h
      unfold pTruB at h
      cases hps : pCmp b L 6 p e with
      | inl q1 =>
        rw [hps] at h
        cases h
      | inr z =>
        rw [hps] at h
        exact (loopI is38 _ _ (pUnit_ok (b := b) (L := L) 6) (fun c hc => (is38_ok c hc).1) 240 z.1 z.2 (hpcR p e _ _ hp hps)).2 p' e' h
  have hs := tpSkip_le (b := b) hp
  have hid := tpSkip_id (b := b) hp
  have goodC : ∀ (p1 p2 : Nat) (e1 v1 : Ex) (x4 : Option Value), BVp (e1.2 lt) → pClause b L p = .inr (p2, (some e1, v1)) → wq G (0, 0) (d + 30) 191 134 [some (.ref 58), some (.int 121), some (.int (e1.2 lt)), some (.int (v1.2 lt)), x4] [] (0, 0) (HP (rpS (fdS hi o) p2 (-1) (nI (6 - 6))) hl f dr t) Q := by
    intro p1 p2 e1 v1 x4 hb h
    refine c_rclause_end hlab ?_
    have := hQ _ _ h
    cases o with
    | none => exact this
    | some w => exact this
  have goodS : ∀ (p2 : Nat) (v1 : Ex) (x4 : Option Value), pClause b L p = .inr (p2, (none, v1)) → wq G (0, 0) (d + 30) 191 134 [some (.ref 58), some (.int 121), some (.int 1), some (.int (v1.2 lt)), x4] [] (0, 0) (HP (rpS (fdS hi o) p2 (-1) (nI (6 - 6))) hl f dr t) Q := by
    intro p2 v1 x4 h
    refine c_rclause_end hlab ?_
    have := hQ _ _ h
    cases o with
    | none => exact this
    | some w => exact this
  have bad : ∀ (p2 q : Nat) (dp' : Int32) (x1 x2 x3 x4 : Option Value), q ≤ L → p2 ≤ L → pClause b L p = .inl q → wq G (0, 0) (d + 30) 191 134 [some (.ref 58), x1, x2, x3, x4] [] (0, 0) (HP (rpS (fdS hi o) p2 (nI q) dp') hl f dr t) Q := by
    intro p2 q dp' x1 x2 x3 x4 hq hp2 h
    exact c_rclause_bad (by omega) (hF _ _ _ _ h hp2)
  have hcl : pClause b L p = pB (pEnd b L 121 p ()) (fun p1 _ => pB (pEnd b L 58 p1 ()) (fun p2 _ => pClB b L (tpSkip b L p2))) := rfl
  generalize hq : tpSkip b L p = q at hs hid
  generalize hc : tat b L q = c
  have hE1 : pEnd b L 121 p () = if c = 121 then pok (q + 1) () else pno q := by unfold pEnd; rw [hq, hc]
  rw [hE1] at hcl
  refine Ct_of (ls := [_, _, _, _, _]) m_191.1.2.2.1 (Nat.le_of_ble_eq_true rfl) rfl ?_
  refine wq_aload_n q191_0 rfl ?_
  refine cV (As := []) q191_1 m_177 rfl rfl rfl ⟨by decide, rfl⟩ rfl (c_rlook hT' hp ?_)
  refine wq_istore_n (ls' := [_, _, _, _, _]) q191_4 rfl ?_
  refine wq_ldcS q191_5 ?_
  refine wq_iload_n q191_7 rfl ?_
  refine cS' (As := [_, _]) q191_8 m_172 rfl rfl rfl (c_isAmong (j := 5) (by decide) ?_)
  refine wq_if_ne q191_11 (fun c11 => ?_) (fun c11 => ?_)
  · rw [hq, hc] at c11 ⊢
    have h121 : c = 121 := by
      apply Classical.byContradiction
      intro z
      rw [if_pos (liO5.mpr z)] at c11
      exact c11 rfl
    subst h121
    have hlt1 : q < L := tat_lt hc (by decide)
    rw [if_pos rfl, pB_r] at hcl
    have e10 : hI (HP (rpS (fdS hi o) q (-1) 0) hl f dr t) 58 10 = nI q := rfl
    have hs1 := tpSkip_le (b := b) (L := L) (p := q + 1) (by omega)
    refine wq_aload_n q191_20 rfl ?_
    refine wq_dup q191_21 rfl ?_
    refine wq_getI q191_22 rfl rfl ?_
    refine wq_iconst q191_25 ?_
    refine wq_iadd q191_26 ?_
    refine wq_putI q191_27 rfl rfl rfl rfl ?_
    rw [e10, nI_1, hpS, rpS_p]
    refine wq_aload_n q191_30 rfl ?_
    refine wq_bipush q191_31 ?_
    refine cV (As := [_]) q191_33 m_180 rfl rfl rfl ⟨by decide, rfl⟩ rfl (c_rtakes hT' (by omega) (fun _ z => ?_) (fun _ z => ?_) (fun z => ?_))
    · have hlt2 : tpSkip b L (q + 1) < L := tat_lt z (by decide)
      have hE2 : pEnd b L 58 (q + 1) () = pok (tpSkip b L (q + 1) + 1) () := by unfold pEnd; rw [if_pos z]
      rw [hE2, pB_r] at hcl
      have hp2' : tpSkip b L (q + 1) + 1 ≤ L := hlt2
      generalize tpSkip b L (q + 1) + 1 = p2 at hcl hp2'
      have hp2 : p2 ≤ L := hp2'
      have hs2 := tpSkip_le (b := b) hp2
      have hid2 := tpSkip_id (b := b) hp2
      refine wq_if_ne q191_36 (fun c36 => ?_) (fun c36 => ?_)
      · refine wq_iconst q191_40 ?_
        refine wq_istore_n (ls' := [_, _, _, _, _]) q191_41 rfl ?_
        refine wq_iconst q191_42 ?_
        refine wq_istore_n (ls' := [_, _, _, _, _]) q191_43 rfl ?_
        refine wq_aload_n q191_44 rfl ?_
        refine cV (As := []) q191_45 m_177 rfl rfl rfl ⟨by decide, rfl⟩ rfl (c_rlook hT' hp2 ?_)
        refine wq_istore (ls' := [_, _, _, _, _]) q191_48 rfl ?_
        generalize tpSkip b L p2 = s at hcl hs2 hid2
        generalize hcs : tat b L s = cs
        have hsl : s ≤ L := hs2.2
        have viaC : (cs = 33 ∨ cs = 40) → ∀ x2 x3, wq G (0, 0) (d + 30) 191 64 [some (.ref 58), some (.int 121), x2, x3, some (.int cs)] [] (0, 0) (HP (rpS (fdS hi o) s (-1) 0) hl f dr t) Q := by
          intro ho x2 x3
          have hcb : pClB b L s = pB (pCon b L (pUnit b L 6) s) (pOnly b L) := by unfold pClB; rw [hcs, if_pos ho]
          rw [hcb] at hcl
          have hpg := pCon_ok (b := b) (pUnit_ok (b := b) (L := L) 6) s hsl
          refine wq_aload_n q191_64 rfl ?_
          refine wq_iconst q191_65 ?_
          refine wq_iconst q191_66 ?_
          refine cV (As := [_, _]) q191_67 m_190 rfl rfl rfl ⟨by decide, rfl⟩ rfl (hcond s _ hsl (fun p3 e3 h3 hb3 => ?_) (fun q3 p3 dp3 v3 h3 hp3 hb3 => ?_))
          · refine wq_istore_n (ls' := [_, _, _, _, _]) q191_70 rfl ?_
            rw [h3] at hcl hpg
            have hp3 : p3 ≤ L := hpg.2.1
            have hs3 := tpSkip_le (b := b) hp3
            refine wq_aload_n q191_71 rfl ?_
            refine wq_bipush q191_72 ?_
            refine cV (As := [_]) q191_74 m_180 rfl rfl rfl ⟨by decide, rfl⟩ rfl (c_rtakes hT' hp3 (fun _ z3 => ?_) (fun _ z3 => ?_) (fun z3 => ?_))
            · have hlt3 : tpSkip b L p3 < L := tat_lt z3 (by decide)
              have hO : pB (Sum.inr (p3, e3)) (pOnly b L) = pB (pSum b L 6 (tpSkip b L p3 + 1)) (fun p'' v => pok p'' (some e3, v)) := by
                show pOnly b L p3 e3 = _
                unfold pOnly pEnd
                rw [if_pos z3]
                rfl
              rw [hO] at hcl
              have hpg4 := pSum_ok (b := b) (L := L) 6 (tpSkip b L p3 + 1) (by omega)
              refine wq_if_ne q191_77 (fun c77 => ?_) (fun c77 => ?_)
              · refine wq_aload_n q191_81 rfl ?_
                refine cV (As := []) q191_82 m_185 rfl rfl rfl ⟨by decide, rfl⟩ rfl (hsum (d + 4) (tpSkip b L p3 + 1) _ (by omega) (fun p4 v4 h4 _ => ?_) (fun q4 p4 dp4 v4 h4 hp4 _ => ?_))
                · refine wq_istore_n (ls' := [_, _, _, _, _]) q191_85 rfl ?_
                  refine wq_goto q191_86 ?_
                  rw [h4] at hcl
                  exact goodC p3 p4 e3 v4 _ hb3 hcl
                · refine wq_istore_n (ls' := [_, _, _, _, _]) q191_85 rfl ?_
                  refine wq_goto q191_86 ?_
                  rw [h4] at hcl hpg4
                  exact bad p4 q4 dp4 _ _ _ _ hpg4 hp4 hcl
              · exact absurd c77 (by decide)
            · have hO : pB (Sum.inr (p3, e3)) (pOnly b L) = .inl (tpSkip b L p3) := by
                show pOnly b L p3 e3 = _
                unfold pOnly pEnd
                rw [if_neg z3]
                rfl
              rw [hO] at hcl
              refine wq_if_ne q191_77 (fun c77 => ?_) (fun c77 => ?_)
              · exact absurd rfl c77
              · refine rV q191_80 ?_
                exact hF _ _ _ _ hcl hs3.2
            · exact absurd rfl z3
          · refine wq_istore_n (ls' := [_, _, _, _, _]) q191_70 rfl ?_
            rw [h3] at hcl hpg
            have hq3 : q3 ≤ L := hpg
            refine wq_aload_n q191_71 rfl ?_
            refine wq_bipush q191_72 ?_
            refine cV (As := [_]) q191_74 m_180 rfl rfl rfl ⟨by decide, rfl⟩ rfl (c_rtakes hT' hp3 (fun z3 => ?_) (fun z3 => ?_) (fun z3 => ?_))
            · exact absurd z3 (nI_nm1 (by omega))
            · exact absurd z3 (nI_nm1 (by omega))
            · refine wq_if_ne q191_77 (fun c77 => ?_) (fun c77 => ?_)
              · exact absurd rfl c77
              · refine rV q191_80 ?_
                exact hF _ _ _ _ hcl hp3
        refine wq_iload q191_50 rfl ?_
        refine wq_bipush q191_52 ?_
        refine wq_icmp_eq q191_54 (fun c54 => ?_) (fun c54 => ?_)
        · exact viaC (Or.inl c54) _ _
        · refine wq_iload q191_57 rfl ?_
          refine wq_bipush q191_59 ?_
          refine wq_icmp_ne q191_61 (fun c61 => ?_) (fun c61 => ?_)
          · have hcb : pClB b L s = pB (pSum b L 6 s) (fun p' v => if isCmp (tat b L (tpSkip b L p')) = true then pB (pConB b L 6 (tpSkip b L p') v) (pOnly b L) else pok (tpSkip b L p') (none, v)) := by
              unfold pClB
              rw [hcs, if_neg (by rintro (z | z); exact c54 z; exact c61 z)]
            rw [hcb] at hcl
            have hpg := pSum_ok (b := b) (L := L) 6 s hsl
            refine wq_aload_n q191_89 rfl ?_
            refine cV (As := []) q191_90 m_185 rfl rfl rfl ⟨by decide, rfl⟩ rfl (hsum (d + 4) s _ hsl (fun p3 v3 h3 _ => ?_) (fun q3 p3 dp3 v3 h3 hp3 _ => ?_))
            · refine wq_istore_n (ls' := [_, _, _, _, _]) q191_93 rfl ?_
              rw [h3] at hcl hpg
              have hp3 : p3 ≤ L := hpg.2.1
              have hs3 := tpSkip_le (b := b) hp3
              rw [pB_r] at hcl
              have e11 : hI (HP (rpS (fdS hi o) p3 (-1) (nI (6 - 6))) hl f dr t) 58 11 = -1 := rfl
              refine wq_aload_n q191_94 rfl ?_
              refine wq_getI q191_95 rfl rfl ?_
              refine wq_iconst q191_98 ?_
              refine wq_icmp_ne q191_99 (fun c99 => ?_) (fun c99 => ?_)
              · exact absurd e11 c99
              · refine wq_aload_n q191_102 rfl ?_
                refine cV (As := []) q191_103 m_177 rfl rfl rfl ⟨by decide, rfl⟩ rfl (c_rlook hT' hp3 ?_)
                refine cS' (As := [_]) q191_106 m_186 rfl rfl rfl (c_risSign ?_)
                refine wq_if_eq q191_109 (fun c109 => ?_) (fun c109 => ?_)
                · have ho := p01 c109
                  rw [if_neg ho] at hcl
                  exact goodS _ v3 _ hcl
                · have ho := p10 c109
                  rw [if_pos ho] at hcl
                  generalize tpSkip b L p3 = p4 at hcl hs3
                  have hp4 : p4 ≤ L := hs3.2
                  refine wq_aload_n q191_112 rfl ?_
                  refine wq_iconst q191_113 ?_
                  refine wq_iload_n q191_114 rfl ?_
                  refine cV (As := [_, _]) q191_115 m_190 rfl rfl rfl ⟨by decide, rfl⟩ rfl (hcondB p4 v3 _ hp4 (fun p5 e5 h5 hb5 => ?_) (fun q5 p5 dp5 v5 h5 hp5 hb5 => ?_))
                  · refine wq_istore_n (ls' := [_, _, _, _, _]) q191_118 rfl ?_
                    rw [h5] at hcl
                    have hp5 : p5 ≤ L := by
                      unfold pConB pTruB at h5
                      cases hps : pCmp b L 6 p4 v3 with
                      | inl q1 =>
                        rw [hps] at h5
                        cases h5
                      | inr z =>
                        rw [hps] at h5
                        have l1 := loopI is38 _ _ (pUnit_ok (b := b) (L := L) 6) (fun c hc => (is38_ok c hc).1) 240 z.1 z.2 (hpcR p4 v3 _ _ hp4 hps)
                        cases hps2 : pTruL b L (pUnit b L 6) z.1 z.2 with
                        | inl q1 =>
                          rw [show pB (Sum.inr z) (pTruL b L (pUnit b L 6)) = pTruL b L (pUnit b L 6) z.1 z.2 from rfl, hps2] at h5
                          cases h5
                        | inr z2 =>
                          rw [show pB (Sum.inr z) (pTruL b L (pUnit b L 6)) = pTruL b L (pUnit b L 6) z.1 z.2 from rfl, hps2] at h5
                          exact (loopI is124 _ _ (pTru_ok (pUnit_ok (b := b) (L := L) 6)) (fun c hc => (is124_ok c hc).1) 240 z2.1 z2.2 (l1.2 _ _ hps2)).2 _ _ h5
                    have hs5 := tpSkip_le (b := b) hp5
                    refine wq_aload_n q191_119 rfl ?_
                    refine wq_bipush q191_120 ?_
                    refine cV (As := [_]) q191_122 m_180 rfl rfl rfl ⟨by decide, rfl⟩ rfl (c_rtakes hT' hp5 (fun _ z5 => ?_) (fun _ z5 => ?_) (fun z5 => ?_))
                    · have hlt5 : tpSkip b L p5 < L := tat_lt z5 (by decide)
                      have hO : pB (Sum.inr (p5, e5)) (pOnly b L) = pB (pSum b L 6 (tpSkip b L p5 + 1)) (fun p'' v => pok p'' (some e5, v)) := by
                        show pOnly b L p5 e5 = _
                        unfold pOnly pEnd
                        rw [if_pos z5]
                        rfl
                      rw [hO] at hcl
                      have hpg6 := pSum_ok (b := b) (L := L) 6 (tpSkip b L p5 + 1) (by omega)
                      refine wq_if_ne q191_125 (fun c125 => ?_) (fun c125 => ?_)
                      · refine wq_aload_n q191_129 rfl ?_
                        refine cV (As := []) q191_130 m_185 rfl rfl rfl ⟨by decide, rfl⟩ rfl (hsum (d + 4) (tpSkip b L p5 + 1) _ (by omega) (fun p6 v6 h6 _ => ?_) (fun q6 p6 dp6 v6 h6 hp6 _ => ?_))
                        · refine wq_istore_n (ls' := [_, _, _, _, _]) q191_133 rfl ?_
                          rw [h6] at hcl
                          exact goodC p5 p6 e5 v6 _ hb5 hcl
                        · refine wq_istore_n (ls' := [_, _, _, _, _]) q191_133 rfl ?_
                          rw [h6] at hcl hpg6
                          exact bad p6 q6 dp6 _ _ _ _ hpg6 hp6 hcl
                      · exact absurd c125 (by decide)
                    · have hO : pB (Sum.inr (p5, e5)) (pOnly b L) = .inl (tpSkip b L p5) := by
                        show pOnly b L p5 e5 = _
                        unfold pOnly pEnd
                        rw [if_neg z5]
                        rfl
                      rw [hO] at hcl
                      refine wq_if_ne q191_125 (fun c125 => ?_) (fun c125 => ?_)
                      · exact absurd rfl c125
                      · refine rV q191_128 ?_
                        exact hF _ _ _ _ hcl hs5.2
                    · exact absurd rfl z5
                  · refine wq_istore_n (ls' := [_, _, _, _, _]) q191_118 rfl ?_
                    rw [h5] at hcl
                    have hq5 : q5 ≤ L := (pClause_ok (b := b) hp).1 q5 hcl
                    refine wq_aload_n q191_119 rfl ?_
                    refine wq_bipush q191_120 ?_
                    refine cV (As := [_]) q191_122 m_180 rfl rfl rfl ⟨by decide, rfl⟩ rfl (c_rtakes hT' hp5 (fun z5 => ?_) (fun z5 => ?_) (fun z5 => ?_))
                    · exact absurd z5 (nI_nm1 (by omega))
                    · exact absurd z5 (nI_nm1 (by omega))
                    · refine wq_if_ne q191_125 (fun c125 => ?_) (fun c125 => ?_)
                      · exact absurd rfl c125
                      · refine rV q191_128 ?_
                        exact hF _ _ _ _ hcl hp5
            · refine wq_istore_n (ls' := [_, _, _, _, _]) q191_93 rfl ?_
              rw [h3] at hcl hpg
              have hq3 : q3 ≤ L := hpg
              refine wq_aload_n q191_94 rfl ?_
              refine wq_getI q191_95 rfl rfl ?_
              refine wq_iconst q191_98 ?_
              refine wq_icmp_ne q191_99 (fun c99 => ?_) (fun c99 => ?_)
              · exact bad p3 q3 dp3 _ _ _ _ hq3 hp3 hcl
              · exact absurd c99 (nI_nm1 (by omega))
          · exact viaC (Or.inr c61) _ _
      · exact absurd c36 (by decide)
    · have hE2 : pEnd b L 58 (q + 1) () = pno (tpSkip b L (q + 1)) := by unfold pEnd; rw [if_neg z]
      rw [hE2] at hcl
      refine wq_if_ne q191_36 (fun c36 => ?_) (fun c36 => ?_)
      · exact absurd rfl c36
      · refine rV q191_39 ?_
        exact hF _ _ _ _ hcl hs1.2
    · exact absurd rfl z
  · rw [hq, hc] at c11
    rw [hq]
    have h121 : ¬ c = 121 := by
      intro z
      subst z
      exact absurd c11 (by decide)
    rw [if_neg h121] at hcl
    refine wq_aload_n q191_14 rfl ?_
    refine cV (As := []) q191_15 m_178 rfl rfl rfl ⟨by decide, rfl⟩ rfl (c_rfails ?_)
    refine wq_pop q191_18 rfl ?_
    refine rV q191_19 ?_
    rw [tpF, if_pos rfl]
    exact hF _ _ _ _ hcl hs.2
/-- what comes behind a clause -/
def pMore (b : Nat → Int32) (L m p : Nat) : PR (List Cl) := if tat b L (tpSkip b L p) = 59 then pLaw b L m (tpSkip b L p + 1) else pok (tpSkip b L p) []
theorem pLaw_S (m p : Nat) : pLaw b L (m + 1) p = pB (pClause b L p) (fun p' cl => pB (pMore b L m p') (fun p'' l => pok p'' (cl :: l))) := by
  rw [pLaw]
  cases pClause b L p with
  | inl q => rfl
  | inr z =>
    rw [show pB (Sum.inr z) (fun p' cl => pB (pMore b L m p') (fun p'' l => pok p'' (cl :: l))) = pB (pMore b L m z.1) (fun p'' l => pok p'' (z.2 :: l)) from rfl]
    rw [show pB (Sum.inr z) (fun p' cl => if tat b L (tpSkip b L p') = 59 then pB (pLaw b L m (tpSkip b L p' + 1)) (fun p'' l => pok p'' (cl :: l)) else pok (tpSkip b L p') [cl]) = (if tat b L (tpSkip b L z.1) = 59 then pB (pLaw b L m (tpSkip b L z.1 + 1)) (fun p'' l => pok p'' (z.2 :: l)) else pok (tpSkip b L z.1) [z.2]) from rfl]
    unfold pMore
    by_cases h : tat b L (tpSkip b L z.1) = 59
    · rw [if_pos h, if_pos h]
    · rw [if_neg h, if_neg h]
      rfl
theorem c_rgo_loop {y1 : Nat} {y2 y3 : Int32} (hT : RT hi t bg L N b) (hlt : ∀ k, k < 6 → lt k = hi 62 (cB 3 k).toNatClampNeg) (hlab : hi 58 13 = 121) :
    ∀ (m p : Nat) (o : Option Int32), p ≤ L → L ≤ p + m →
    (∀ p' l, pMore b L m p = .inr (p', l) → p' ≤ L → wq G (0, 0) (d + 31) 193 66 [some (.ref 58), some (.ref y1), some (.int y2), some (.int y3)] [] (0, 0) (HP (rpS (fdS hi (l.foldl (clO lt) o)) p' (-1) 0) hl f dr t) Q) →
    (∀ q p' dp' o', pMore b L m p = .inl q → p' ≤ L → wq G (0, 0) (d + 31) 193 66 [some (.ref 58), some (.ref y1), some (.int y2), some (.int y3)] [] (0, 0) (HP (rpS (fdS hi o') p' (nI q) dp') hl f dr t) Q) →
    wq G (0, 0) (d + 31) 193 32 [some (.ref 58), some (.ref y1), some (.int y2), some (.int y3)] [] (0, 0) (HP (rpS (fdS hi o) p (-1) 0) hl f dr t) Q := by
  have hLm := hT.2.1
  intro m
  induction m with
  | zero =>
    intro p o hp hm hQ hF
    obtain rfl : p = L := by omega
    have e11 : hI (HP (rpS (fdS hi o) p (-1) 0) hl f dr t) 58 11 = -1 := rfl
    refine wq_aload_n q193_32 rfl ?_
    refine wq_getI q193_33 rfl rfl ?_
    refine wq_iconst q193_36 ?_
    refine wq_icmp_ne q193_37 (fun c37 => ?_) (fun c37 => ?_)
    · exact absurd e11 c37
    · refine wq_aload_n q193_40 rfl ?_
      refine cV (As := []) q193_41 m_177 rfl rfl rfl ⟨by decide, rfl⟩ rfl (c_rlook (hT.fd o) hp ?_)
      refine wq_bipush q193_44 ?_
      refine wq_icmp_ne q193_46 (fun c46 => ?_) (fun c46 => ?_)
      · rw [tpSkip_L]
        exact hQ p [] (by unfold pMore; rw [tpSkip_L, tat_L, if_neg (by decide)]) hp
      · rw [tpSkip_L, tat_L] at c46
        exact absurd c46 (by decide)
  | succ m ih =>
    intro p o hp hm hQ hF
    have e11 : hI (HP (rpS (fdS hi o) p (-1) 0) hl f dr t) 58 11 = -1 := rfl
    have hs := tpSkip_le (b := b) hp
    unfold pMore at hQ hF
    generalize hq : tpSkip b L p = q at hs hQ hF
    refine wq_aload_n q193_32 rfl ?_
    refine wq_getI q193_33 rfl rfl ?_
    refine wq_iconst q193_36 ?_
    refine wq_icmp_ne q193_37 (fun c37 => ?_) (fun c37 => ?_)
    · exact absurd e11 c37
    · refine wq_aload_n q193_40 rfl ?_
      refine cV (As := []) q193_41 m_177 rfl rfl rfl ⟨by decide, rfl⟩ rfl (c_rlook (hT.fd o) hp ?_)
      refine wq_bipush q193_44 ?_
      refine wq_icmp_ne q193_46 (fun c46 => ?_) (fun c46 => ?_)
      · rw [hq] at c46 ⊢
        rw [if_neg c46] at hQ
        exact hQ q [] rfl hs.2
      · rw [hq] at c46 ⊢
        rw [if_pos c46, pLaw_S] at hQ hF
        have hlt' : q < L := tat_lt c46 (by decide)
        have hok := pClause_ok (b := b) (L := L) (p := q + 1) (by omega)
        have e10 : hI (HP (rpS (fdS hi o) q (-1) 0) hl f dr t) 58 10 = nI q := rfl
        refine wq_aload_n q193_49 rfl ?_
        refine wq_dup q193_50 rfl ?_
        refine wq_getI q193_51 rfl rfl ?_
        refine wq_iconst q193_54 ?_
        refine wq_iadd q193_55 ?_
        refine wq_putI q193_56 rfl rfl rfl rfl ?_
        rw [e10, nI_1, hpS, rpS_p]
        refine wq_aload_n q193_59 rfl ?_
        refine cV (As := []) q193_60 m_191 rfl rfl rfl ⟨by decide, rfl⟩ rfl (c_rclause hT hlt hlab (by omega) (fun p1 cl h1 => ?_) (fun q1 p1 dp1 o1 h1 hp1 => ?_))
        · rw [h1, pB_r] at hQ hF
          obtain ⟨k1, k2, -⟩ := hok.2 p1 cl h1
          refine wq_goto q193_63 ?_
          refine ih p1 (clO lt o cl) k2 (by omega) (fun p' l h2 hp' => ?_) (fun q' p' dp' o' h2 hp' => ?_)
          · rw [h2] at hQ
            exact hQ p' (cl :: l) rfl hp'
          · rw [h2] at hF
            exact hF q' p' dp' o' rfl hp'
        · rw [h1] at hF
          have hq1 := hok.1 q1 h1
          refine wq_goto q193_63 ?_
          refine wq_aload_n q193_32 rfl ?_
          refine wq_getI q193_33 rfl rfl ?_
          refine wq_iconst q193_36 ?_
          refine wq_icmp_ne q193_37 (fun c37 => ?_) (fun c37 => ?_)
          · exact hF q1 p1 dp1 o1 rfl hp1
          · exact absurd c37 (nI_nm1 (by omega))
end REFCLAUSE
/-- the reference's text is another one -/
theorem gdne {α : Type} (A B : List α) (x y z : α) (s : Nat) (hs : s ≠ A.length) : (A ++ x :: B).getD s z = (A ++ y :: B).getD s z := by
  simp only [List.getD_eq_getElem?_getD]
  by_cases h : s < A.length
  · rw [List.getElem?_append_left h, List.getElem?_append_left h]
  · rw [List.getElem?_append_right (by omega), List.getElem?_append_right (by omega)]
    obtain ⟨k, hk⟩ : ∃ k, s - A.length = k + 1 := ⟨s - A.length - 1, by omega⟩
    rw [hk, List.getElem?_cons_succ, List.getElem?_cons_succ]
theorem hpT (hi : Nat → Nat → Int32) (hl : Nat → Nat → Int64) (f dr t0 t : Nat) : stR (HP hi hl f dr t0) 58 5 (some t) = HP hi hl f dr t := by
  have e : up2 (HR f dr t0) 58 5 (some t) = HR f dr t := by
    funext a s
    by_cases ha : a = 58
    · subst ha
      rw [up2_s]
      by_cases hs : s = 5
      · subst hs
        rfl
      · rw [vu_o _ _ hs]
        exact gdne [none, some 59, some 60, some 61, some 62] _ (some t0) (some t) none s hs
    · rw [up2_o _ _ _ ha]
      have h1 := gdne ((refT f dr t0).take 58) [] ((refT f dr t0).getD 58 []) ((refT f dr t).getD 58 []) [] a ha
      show ((refT f dr t0).getD a []).getD s none = ((refT f dr t).getD a []).getD s none
      have h2 : refT f dr t0 = (refT f dr t0).take 58 ++ ((refT f dr t0).getD 58 []) :: [] := rfl
      have h3 : refT f dr t = (refT f dr t0).take 58 ++ ((refT f dr t).getD 58 []) :: [] := rfl
      rw [h3, ← h1, ← h2]
  show (false, shT, hi, hl, up2 (HR f dr t0) 58 5 (some t)) = (false, shT, hi, hl, HR f dr t)
  rw [e]
section REFGO
variable {G : ph_G} {d f dr t t0 bg L N p : Nat} {hi : Nat → Nat → Int32} {hl : Nat → Nat → Int64} {Q : Option Value → ph_H → Prop} {b lt : Nat → Int32}
/-- a text is begun -/
def stsS (hi : Nat → Nat → Int32) (bg L : Nat) : Nat → Nat → Int32 := up2 (up2 (up2 (up2 hi 58 8 (nI bg)) 58 9 (nI L)) 58 10 (nI 0)) 58 11 (-1)
theorem c_starts (hQ : Q none (HP (stsS hi bg L) hl f dr t)) : Ct G (0, 0) d 192 [.ref 58, .ref t, .int (nI bg), .int (nI L)] (HP hi hl f dr t0) Q := by
  refine Ct_of (ls := [_, _, _, _]) m_192.1.2.2.1 (Nat.le_of_ble_eq_true rfl) rfl ?_
  refine wq_aload_n q192_0 rfl ?_
  refine wq_aload_n q192_1 rfl ?_
  refine wq_putR q192_2 rfl rfl ?_
  rw [hpT]
  refine wq_aload_n q192_5 rfl ?_
  refine wq_iload_n q192_6 rfl ?_
  refine wq_putI q192_7 rfl rfl rfl rfl ?_
  refine wq_aload_n q192_10 rfl ?_
  refine wq_iload_n q192_11 rfl ?_
  refine wq_putI q192_12 rfl rfl rfl rfl ?_
  refine wq_aload_n q192_15 rfl ?_
  refine wq_iconst q192_16 ?_
  refine wq_putI q192_17 rfl rfl rfl rfl ?_
  refine wq_aload_n q192_20 rfl ?_
  refine wq_iconst q192_21 ?_
  refine wq_putI q192_22 rfl rfl rfl rfl ?_
  refine rV q192_25 ?_
  rw [hpS, hpS, hpS, hpS]
  exact hQ
def gtF : List Nat := [8, 9, 10, 11, 12, 13, 14, 17]
theorem stsS_12 (x : Int32) : up2 (stsS hi bg L) 58 12 x = rpS (up2 (up2 hi 58 8 (nI bg)) 58 9 (nI L)) 0 (-1) x := rfl
theorem c_goThrough (ht : (t = 59 ∧ N = 240) ∨ (t = 60 ∧ N = 960)) (hLm : L ≤ 240) (hbg : bg + L ≤ N) (hb : TpB b L) (hby : ∀ j, j < L → hi t (bg + j) = (b j).toInt8.toInt32) (hlt : ∀ k, k < 6 → lt k = hi 62 (cB 3 k).toNatClampNeg)
    (hQ : ∀ hi', (∀ a, a ≠ 58 → hi' a = hi a) → (∀ k, k ∉ gtF → hi' 58 k = hi 58 k) → (∀ q, pLawT b L = .inl q → hi' 58 11 = nI q) → (∀ p l, pLawT b L = .inr (p, l) → hi' 58 11 = -1 ∧ hi' 58 14 = lawEv lt l) → Q none (HP hi' hl f dr t)) :
    Ct G (0, 0) (d + 31) 193 [.ref 58, .ref t, .int (nI bg), .int (nI L)] (HP hi hl f dr t0) Q := by
  have ht58 : t ≠ 58 := by rcases ht with ⟨rfl, -⟩ | ⟨rfl, -⟩ <;> decide
  generalize hh : up2 (up2 (up2 hi 58 13 121) 58 8 (nI bg)) 58 9 (nI L) = h1
  have hT : RT h1 t bg L N b := by
    subst hh
    exact ⟨ht, hLm, hbg, hb, rfl, rfl, fun j hj => by rw [up2_o _ _ _ ht58, up2_o _ _ _ ht58, up2_o _ _ _ ht58]; exact hby j hj⟩
  have hlt1 : ∀ k, k < 6 → lt k = h1 62 (cB 3 k).toNatClampNeg := by subst hh; exact hlt
  have hlab : h1 58 13 = 121 := by subst hh; rfl
  have same : ∀ (p : Nat) (fl dp : Int32) (o : Option Int32), (∀ a, a ≠ 58 → rpS (fdS h1 o) p fl dp a = hi a) ∧ (∀ k, k ∉ gtF → rpS (fdS h1 o) p fl dp 58 k = hi 58 k) := by
    intro p fl dp o
    subst hh
    refine ⟨fun a ha => ?_, fun k hk => ?_⟩
    · rw [rpS_o _ _ _ _ ha, fdS_o _ _ ha, up2_o _ _ _ ha, up2_o _ _ _ ha, up2_o _ _ _ ha]
    · simp only [gtF, List.mem_cons, List.not_mem_nil, or_false, not_or] at hk
      obtain ⟨k1, k2, k3, k4, k5, k6, k7, k8⟩ := hk
      simp [rpS, fdS, up2, va_up, k1, k2, k3, k4, k5, k6, k7, k8]
  have fin : ∀ (p : Nat) (l : List Cl), pLaw b L 240 0 = .inr (p, l) → p ≤ L → wq G (0, 0) (d + 31) 193 66 [some (.ref 58), some (.ref t), some (.int (nI bg)), some (.int (nI L))] [] (0, 0) (HP (rpS (fdS h1 (l.foldl (clO lt) none)) p (-1) 0) hl f dr t) Q := by
    intro p l hpl hp
    have e11 : ∀ o p, hI (HP (rpS (fdS h1 o) p (-1) 0) hl f dr t) 58 11 = -1 := fun _ _ => rfl
    have hfin : pLawT b L = if tat b L (tpSkip b L p) = -1 then pok (tpSkip b L p) l else pno (tpSkip b L p) := by
      unfold pLawT pFin
      rw [hpl]
      rfl
    refine wq_aload_n q193_66 rfl ?_
    refine wq_getI q193_67 rfl rfl ?_
    refine wq_iconst q193_70 ?_
    refine wq_icmp_ne q193_71 (fun c71 => ?_) (fun c71 => ?_)
    · exact absurd (e11 _ _) c71
    · refine wq_aload_n q193_74 rfl ?_
      refine cV (As := []) q193_75 m_177 rfl rfl rfl ⟨by decide, rfl⟩ rfl (c_rlook (hT.fd _) hp ?_)
      refine wq_iconst q193_78 ?_
      refine wq_icmp_eq q193_79 (fun c79 => ?_) (fun c79 => ?_)
      · rw [if_pos c79] at hfin
        refine rV q193_87 ?_
        refine hQ _ (same _ _ _ _).1 (same _ _ _ _).2 (fun q h => ?_) (fun p' l' h => ?_)
        · rw [hfin] at h
          cases h
        · rw [hfin] at h
          cases h
          refine ⟨rfl, ?_⟩
          rw [← clO_ev]
          rfl
      · rw [if_neg c79] at hfin
        refine wq_aload_n q193_82 rfl ?_
        refine cV (As := []) q193_83 m_178 rfl rfl rfl ⟨by decide, rfl⟩ rfl (c_rfails ?_)
        refine wq_pop q193_86 rfl ?_
        refine rV q193_87 ?_
        rw [tpF, if_pos rfl]
        refine hQ _ (same _ _ _ _).1 (same _ _ _ _).2 (fun q h => ?_) (fun p' l' h => ?_)
        · rw [hfin] at h
          cases h
          rfl
        · rw [hfin] at h
          cases h
  have bad : ∀ (q p : Nat) (dp : Int32) (o : Option Int32), pLaw b L 240 0 = .inl q → p ≤ L → wq G (0, 0) (d + 31) 193 66 [some (.ref 58), some (.ref t), some (.int (nI bg)), some (.int (nI L))] [] (0, 0) (HP (rpS (fdS h1 o) p (nI q) dp) hl f dr t) Q := by
    intro q p dp o hpl hp
    have hq : q ≤ L := (pLaw_ok (b := b) (L := L) 240 0 (by omega)).1 q hpl
    have hfin : pLawT b L = .inl q := by
      unfold pLawT pFin
      rw [hpl]
      rfl
    refine wq_aload_n q193_66 rfl ?_
    refine wq_getI q193_67 rfl rfl ?_
    refine wq_iconst q193_70 ?_
    refine wq_icmp_ne q193_71 (fun c71 => ?_) (fun c71 => ?_)
    · refine rV q193_87 ?_
      refine hQ _ (same _ _ _ _).1 (same _ _ _ _).2 (fun q' h => ?_) (fun p' l' h => ?_)
      · rw [hfin] at h
        cases h
        rfl
      · rw [hfin] at h
        cases h
    · exact absurd c71 (nI_nm1 (by omega))
  have hchain : up2 (up2 (up2 (up2 (stsS hi bg L) 58 13 121) 58 12 0) 58 17 0) 58 14 0 = rpS (fdS h1 none) 0 (-1) 0 := by
    subst hh
    funext a k
    by_cases ha : a = 58
    · subst ha
      by_cases h8 : k = 8
      · subst h8; rfl
      by_cases h9 : k = 9
      · subst h9; rfl
      by_cases h10 : k = 10
      · subst h10; rfl
      by_cases h11 : k = 11
      · subst h11; rfl
      by_cases h12 : k = 12
      · subst h12; rfl
      by_cases h13 : k = 13
      · subst h13; rfl
      by_cases h14 : k = 14
      · subst h14; rfl
      by_cases h17 : k = 17
      · subst h17; rfl
      simp [stsS, rpS, fdS, up2, va_up, h8, h9, h10, h11, h12, h13, h14, h17]
    · simp [stsS, rpS, fdS, up2, ha]
  have hok := pClause_ok (b := b) (L := L) (p := 0) (by omega)
  refine Ct_of (ls := [_, _, _, _]) m_193.1.2.2.1 (Nat.le_of_ble_eq_true rfl) rfl ?_
  refine wq_aload_n q193_0 rfl ?_
  refine wq_aload_n q193_1 rfl ?_
  refine wq_iload_n q193_2 rfl ?_
  refine wq_iload_n q193_3 rfl ?_
  refine cV (As := [_, _, _]) q193_4 m_192 rfl rfl rfl ⟨by decide, rfl⟩ rfl (c_starts ?_)
  refine wq_aload_n q193_7 rfl ?_
  refine wq_bipush q193_8 ?_
  refine wq_putI q193_10 rfl rfl rfl rfl ?_
  refine wq_aload_n q193_13 rfl ?_
  refine wq_iconst q193_14 ?_
  refine wq_putI q193_15 rfl rfl rfl rfl ?_
  refine wq_aload_n q193_18 rfl ?_
  refine wq_iconst q193_19 ?_
  refine wq_putI q193_20 rfl rfl rfl rfl ?_
  refine wq_aload_n q193_23 rfl ?_
  refine wq_iconst q193_24 ?_
  refine wq_putI q193_25 rfl rfl rfl rfl ?_
  rw [hpS, hpS, hpS, hpS, hchain]
  refine wq_aload_n q193_28 rfl ?_
  refine cV (As := []) q193_29 m_191 rfl rfl rfl ⟨by decide, rfl⟩ rfl (c_rclause hT hlt1 hlab (by omega) (fun p1 cl h1' => ?_) (fun q1 p1 dp1 o1 h1' hp1 => ?_))
  · obtain ⟨k1, k2, -⟩ := hok.2 p1 cl h1'
    refine c_rgo_loop hT hlt1 hlab 239 p1 (clO lt none cl) k2 (by omega) (fun p' l h2 hp' => ?_) (fun q' p' dp' o' h2 hp' => ?_)
    · exact fin p' (cl :: l) (by rw [pLaw_S, h1', pB_r, h2]; rfl) hp'
    · exact bad q' p' dp' o' (by rw [pLaw_S, h1', pB_r, h2]; rfl) hp'
  · have hq1 := hok.1 q1 h1'
    refine wq_aload_n q193_32 rfl ?_
    refine wq_getI q193_33 rfl rfl ?_
    refine wq_iconst q193_36 ?_
    refine wq_icmp_ne q193_37 (fun c37 => ?_) (fun c37 => ?_)
    · exact bad q1 p1 dp1 o1 (by rw [pLaw_S, h1']; rfl) hp1
    · exact absurd c37 (nI_nm1 (by omega))
end REFGO
