/-! THE REFERENCE reads a fort, a plan -/
/-- the fort that the reference is reading -/
def Rf (hi hi' : Nat → Nat → Int32) : Prop := (∀ a, a ∉ [58, 64, 66, 68] → hi' a = hi a) ∧ (∀ k, k ∉ [28, 29, 31] → hi' 58 k = hi 58 k)
def CR (hi hi' : Nat → Nat → Int32) (S : FS) : Prop := hi' 58 28 = nI S.2.1.1 ∧ hi' 58 29 = nI S.2.2.1.1 ∧ hi' 58 31 = (if S.2.2.2 = true then 1 else 0) ∧ (∀ k, k < 4 → hi' 64 k = S.1 k) ∧ (∀ k, k < S.2.1.1 * 5 → hi' 66 k = S.2.1.2 k) ∧ (∀ k, k < S.2.2.1.1 * 2 → hi' 68 k = S.2.2.1.2 k) ∧ Rf hi hi'
theorem Rf.upK {hi hi' : Nat → Nat → Int32} (h : Rf hi hi') {k : Nat} (hk : k ∈ [28, 29, 31]) (x : Int32) : Rf hi (up2 hi' 58 k x) := by
  refine ⟨fun a ha => ?_, fun j hj => ?_⟩
  · rw [up2_o _ _ _ (fun z => ha (by rw [z]; decide))]
    exact h.1 a ha
  · rw [up2_s, vu_o _ _ (fun z => hj (by rw [z]; exact hk))]
    exact h.2 j hj
theorem Rf.upA {hi hi' : Nat → Nat → Int32} (h : Rf hi hi') {a : Nat} (ha : a ∈ [64, 66, 68]) (F : Nat → Int32) : Rf hi (upC hi' a F) := by
  have h58 : 58 ≠ a := by rintro rfl; exact absurd ha (by decide)
  refine ⟨fun b hb => ?_, fun j hj => ?_⟩
  · rw [upC_o _ _ (fun z => hb (by rw [z]; exact List.mem_cons_of_mem _ ha))]
    exact h.1 b hb
  · rw [upC_o _ _ h58]
    exact h.2 j hj
/-- the fort that was read -/
def CF (hi' : Nat → Nat → Int32) (S : FS) : Prop := hi' 58 28 = nI S.2.1.1 ∧ hi' 58 29 = nI S.2.2.1.1 ∧ (∀ k, k < 4 → hi' 64 k = S.1 k) ∧ (∀ k, k < S.2.1.1 * 5 → hi' 66 k = S.2.1.2 k) ∧ (∀ k, k < S.2.2.1.1 * 2 → hi' 68 k = S.2.2.1.2 k)
section REFREAD
variable {G : ph_G} {d f dr t bg L N p : Nat} {hi hi' : Nat → Nat → Int32} {hl : Nat → Nat → Int64} {fl dp : Int32} {Q : Option Value → ph_H → Prop} {b : Nat → Int32}
theorem Rf.rt (h : Rf hi hi') (hT : RT hi t bg L N b) : RT hi' t bg L N b := by
  have ht : t ∉ [58, 64, 66, 68] := by rcases hT.1 with ⟨rfl, -⟩ | ⟨rfl, -⟩ <;> decide
  exact hT.moved (h.1 t ht) (h.2 8 (by decide)) (h.2 9 (by decide))
theorem RT.upK (hT : RT hi t bg L N b) {k : Nat} (hk : k ≠ 8 ∧ k ≠ 9) (x : Int32) : RT (up2 hi 58 k x) t bg L N b := hT.moved (up2_o _ _ _ (hT.sh hi (fun _ _ => 0) 0 0 0).2.1) (by rw [up2_s, vu_o _ _ (Ne.symm hk.1)]) (by rw [up2_s, vu_o _ _ (Ne.symm hk.2)])
theorem c_rfClause {S : FS} (hT : RT hi t bg L N b) (hS : CR hi hi' S) (hok : FSok S) (hp : p ≤ L)
    (hQ : ∀ p' S' hi2, pFC b L p S = .inr (p', S') → CR hi hi2 S' → Q none (HP (rpS hi2 p' (-1) dp) hl f dr t))
    (hF : ∀ q p' hi2, pFC b L p S = .inl q → p' ≤ L → Rf hi hi2 → Q none (HP (rpS hi2 p' (nI q) dp) hl f dr t)) :
    Ct G (0, 0) (d + 6) 201 [.ref 58] (HP (rpS hi' p (-1) dp) hl f dr t) Q := by
  obtain ⟨s3, s4, s5, sR, sC, sE, sS⟩ := hS
  have hT' := sS.rt hT
  have hLm := hT.2.1
  have hs := tpSkip_le (b := b) hp
  have n7 := hok.2.1
  have n6 := hok.2.2.2.1
  have e28 : ∀ p fl, hI (HP (rpS hi' p fl dp) hl f dr t) 58 28 = nI S.2.1.1 := fun _ _ => s3
  have e29 : ∀ p fl, hI (HP (rpS hi' p fl dp) hl f dr t) 58 29 = nI S.2.2.1.1 := fun _ _ => s4
  have e31 : ∀ p fl, hI (HP (rpS hi' p fl dp) hl f dr t) 58 31 = (if S.2.2.2 = true then 1 else 0) := fun _ _ => s5
  unfold pFC at hQ hF
  refine Ct_of (ls := [_, _, _]) m_201.1.2.2.1 (Nat.le_of_ble_eq_true rfl) rfl ?_
  refine wq_aload_n q201_0 rfl ?_
  refine cV (As := []) q201_1 m_177 rfl rfl rfl ⟨by decide, rfl⟩ rfl (c_rlook hT' hp ?_)
  refine wq_istore_n (ls' := [_, _, _]) q201_4 rfl ?_
  generalize hq : tpSkip b L p = q at hs hQ hF
  generalize hc : tat b L q = c at hQ hF
  have e10 : hI (HP (rpS hi' q (-1) dp) hl f dr t) 58 10 = nI q := rfl
  have bad : ¬ (c = 115 ∧ S.2.2.2 = false) → ¬ (c = 99 ∧ S.2.1.1 < 7) → ¬ (c = 118 ∧ S.2.2.1.1 < 6) → ∀ x2, wq G (0, 0) (d + 6) 201 52 [some (.ref 58), some (.int c), x2] [] (0, 0) (HP (rpS hi' q (-1) dp) hl f dr t) Q := by
    intro z1 z2 z3 x2
    unfold pFCc at hF
    rw [if_neg z1, if_neg z2, if_neg z3] at hF
    refine wq_iconst q201_52 ?_
    refine wq_istore_n (ls' := [_, _, _]) q201_53 rfl ?_
    refine wq_iload_n q201_54 rfl ?_
    refine wq_if_ne q201_55 (fun c55 => ?_) (fun c55 => ?_)
    · exact absurd rfl c55
    · refine wq_aload_n q201_58 rfl ?_
      refine cV (As := []) q201_59 m_178 rfl rfl rfl ⟨by decide, rfl⟩ rfl (c_rfails ?_)
      refine wq_pop q201_62 rfl ?_
      refine rV q201_63 ?_
      rw [tpF_1]
      exact hF q q hi' rfl hs.2 sS
  have good : ((c = 115 ∧ S.2.2.2 = false) ∨ (c = 99 ∧ S.2.1.1 < 7) ∨ (c = 118 ∧ S.2.2.1.1 < 6)) → ∀ x2, wq G (0, 0) (d + 6) 201 48 [some (.ref 58), some (.int c), x2] [] (0, 0) (HP (rpS hi' q (-1) dp) hl f dr t) Q := by
    intro hz x2
    have hlt : q < L := tat_lt hc (by rcases hz with z | z | z <;> (rw [z.1]; decide))
    unfold pFCc at hQ hF
    refine wq_iconst q201_48 ?_
    refine wq_goto q201_49 ?_
    refine wq_istore_n (ls' := [_, _, _]) q201_53 rfl ?_
    refine wq_iload_n q201_54 rfl ?_
    refine wq_if_ne q201_55 (fun c55 => ?_) (fun c55 => ?_)
    · refine wq_aload_n q201_64 rfl ?_
      refine wq_dup q201_65 rfl ?_
      refine wq_getI q201_66 rfl rfl ?_
      refine wq_iconst q201_69 ?_
      refine wq_iadd q201_70 ?_
      refine wq_putI q201_71 rfl rfl rfl rfl ?_
      rw [e10, nI_1, hpS, rpS_p]
      rcases hz with ⟨rfl, z⟩ | ⟨rfl, z⟩ | ⟨rfl, z⟩
      · rw [if_pos ⟨rfl, z⟩] at hQ hF
        refine wq_iload_n q201_74 rfl ?_
        refine wq_bipush q201_75 ?_
        refine wq_icmp_ne q201_77 (fun c77 => ?_) (fun c77 => ?_)
        · exact absurd rfl c77
        · refine wq_aload_n q201_80 rfl ?_
          refine wq_iconst q201_81 ?_
          refine wq_putI q201_82 rfl rfl rfl rfl ?_
          rw [hpS, rpS_k _ _ _ _ _ (by decide)]
          refine wq_aload_n q201_85 rfl ?_
          refine wq_iload_n q201_86 rfl ?_
          refine wq_aload_n q201_87 rfl ?_
          refine wq_getR q201_88 rfl rfl rfl ?_
          refine wq_iconst q201_91 ?_
          refine wq_ldcS q201_92 ?_
          refine cV (As := [_, _, _, _]) q201_94 m_200 rfl rfl rfl ⟨by decide, rfl⟩ rfl (c_ritems (j := 0) (n := 4) (at' := 0) (by decide) (Or.inl ⟨rfl, rfl⟩) (by decide) (hT'.upK (by decide) _) (by omega) (fun p' A' hpi => ?_) (fun q' p' A' hpi hp' => ?_))
          · rw [show pItems b L 0 5 (q + 1) 0 (fU 0) = _ from hpi] at hQ
            refine wq_goto q201_97 ?_
            refine rV q201_167 ?_
            refine hQ p' _ _ rfl ⟨s3, s4, rfl, fun k hk => ?_, sC, sE, (sS.upK (by decide) _).upA (by decide) _⟩
            have := ovl_in (F := up2 hi' 58 31 1 64) (A := A') (at' := 0) (n := cN 0) (k := k) hk
            rw [Nat.zero_add] at this
            exact this
          · rw [show pItems b L 0 5 (q + 1) 0 (fU 0) = _ from hpi] at hF
            refine wq_goto q201_97 ?_
            refine rV q201_167 ?_
            exact hF q' p' _ rfl hp' ((sS.upK (by decide) _).upA (by decide) _)
      · rw [if_neg (fun w => absurd w.1 (by decide)), if_pos ⟨rfl, z⟩] at hQ hF
        refine wq_iload_n q201_74 rfl ?_
        refine wq_bipush q201_75 ?_
        refine wq_icmp_ne q201_77 (fun c77 => ?_) (fun c77 => ?_)
        · refine wq_iload_n q201_100 rfl ?_
          refine wq_bipush q201_101 ?_
          refine wq_icmp_ne q201_103 (fun c103 => ?_) (fun c103 => ?_)
          · exact absurd rfl c103
          · refine wq_aload_n q201_106 rfl ?_
            refine wq_dup q201_107 rfl ?_
            refine wq_getI q201_108 rfl rfl ?_
            refine wq_iconst q201_111 ?_
            refine wq_iadd q201_112 ?_
            refine wq_putI q201_113 rfl rfl rfl rfl ?_
            rw [e28, nI_1, hpS, rpS_k _ _ _ _ _ (by decide)]
            have e28' : hI (HP (rpS (up2 hi' 58 28 (nI (S.2.1.1 + 1))) (q + 1) (-1) dp) hl f dr t) 58 28 = nI (S.2.1.1 + 1) := rfl
            refine wq_aload_n q201_116 rfl ?_
            refine wq_iload_n q201_117 rfl ?_
            refine wq_aload_n q201_118 rfl ?_
            refine wq_getR q201_119 rfl rfl rfl ?_
            refine wq_iconst q201_122 ?_
            refine wq_aload_n q201_123 rfl ?_
            refine wq_getI q201_124 rfl rfl ?_
            refine wq_iconst q201_127 ?_
            refine wq_isub q201_128 ?_
            refine wq_imul q201_129 ?_
            rw [e28', nI_pred, show (5 : Int32) * nI S.2.1.1 = nI (S.2.1.1 * 5) from by rw [Nat.mul_comm]; exact pk_mul 5 _]
            refine wq_ldcS q201_130 ?_
            refine cV (As := [_, _, _, _]) q201_132 m_200 rfl rfl rfl ⟨by decide, rfl⟩ rfl (c_ritems (j := 1) (n := 35) (at' := S.2.1.1 * 5) (by decide) (Or.inr (Or.inl ⟨rfl, rfl⟩)) (by show S.2.1.1 * 5 + 5 ≤ 35; omega) (hT'.upK (by decide) _) (by omega) (fun p' A' hpi => ?_) (fun q' p' A' hpi hp' => ?_))
            · rw [show pItems b L 1 6 (q + 1) 0 (fU 1) = _ from hpi] at hQ
              refine wq_goto q201_135 ?_
              refine rV q201_167 ?_
              refine hQ p' _ _ rfl ⟨rfl, s4, s5, sR, fun k hk => ?_, sE, (sS.upK (by decide) _).upA (by decide) _⟩
              rw [upC_s]
              dsimp only at hk ⊢
              show ovl (hi' 66) (S.2.1.1 * 5) 5 A' k = ovl S.2.1.2 (S.2.1.1 * 5) 5 A' k
              by_cases hk2 : k < S.2.1.1 * 5
              · rw [ovl_out (by omega), ovl_out (by omega)]; exact sC k hk2
              · unfold ovl
                rw [if_pos (by omega), if_pos (by omega)]
            · rw [show pItems b L 1 6 (q + 1) 0 (fU 1) = _ from hpi] at hF
              refine wq_goto q201_135 ?_
              refine rV q201_167 ?_
              exact hF q' p' _ rfl hp' ((sS.upK (by decide) _).upA (by decide) _)
        · exact absurd c77 (by decide)
      · rw [if_neg (fun w => absurd w.1 (by decide)), if_neg (fun w => absurd w.1 (by decide)), if_pos ⟨rfl, z⟩] at hQ hF
        refine wq_iload_n q201_74 rfl ?_
        refine wq_bipush q201_75 ?_
        refine wq_icmp_ne q201_77 (fun c77 => ?_) (fun c77 => ?_)
        · refine wq_iload_n q201_100 rfl ?_
          refine wq_bipush q201_101 ?_
          refine wq_icmp_ne q201_103 (fun c103 => ?_) (fun c103 => ?_)
          · refine wq_aload_n q201_138 rfl ?_
            refine wq_dup q201_139 rfl ?_
            refine wq_getI q201_140 rfl rfl ?_
            refine wq_iconst q201_143 ?_
            refine wq_iadd q201_144 ?_
            refine wq_putI q201_145 rfl rfl rfl rfl ?_
            rw [e29, nI_1, hpS, rpS_k _ _ _ _ _ (by decide)]
            have e29' : hI (HP (rpS (up2 hi' 58 29 (nI (S.2.2.1.1 + 1))) (q + 1) (-1) dp) hl f dr t) 58 29 = nI (S.2.2.1.1 + 1) := rfl
            refine wq_aload_n q201_148 rfl ?_
            refine wq_iload_n q201_149 rfl ?_
            refine wq_aload_n q201_150 rfl ?_
            refine wq_getR q201_151 rfl rfl rfl ?_
            refine wq_iconst q201_154 ?_
            refine wq_aload_n q201_155 rfl ?_
            refine wq_getI q201_156 rfl rfl ?_
            refine wq_iconst q201_159 ?_
            refine wq_isub q201_160 ?_
            refine wq_imul q201_161 ?_
            rw [e29', nI_pred, show (2 : Int32) * nI S.2.2.1.1 = nI (S.2.2.1.1 * 2) from by rw [Nat.mul_comm]; exact pk_mul 2 _]
            refine wq_ldcS q201_162 ?_
            refine cV (As := [_, _, _, _]) q201_164 m_200 rfl rfl rfl ⟨by decide, rfl⟩ rfl (c_ritems (j := 2) (n := 12) (at' := S.2.2.1.1 * 2) (by decide) (Or.inr (Or.inr ⟨rfl, rfl⟩)) (by show S.2.2.1.1 * 2 + 2 ≤ 12; omega) (hT'.upK (by decide) _) (by omega) (fun p' A' hpi => ?_) (fun q' p' A' hpi hp' => ?_))
            · rw [show pItems b L 2 3 (q + 1) 0 (fU 2) = _ from hpi] at hQ
              refine rV q201_167 ?_
              refine hQ p' _ _ rfl ⟨s3, rfl, s5, sR, sC, fun k hk => ?_, (sS.upK (by decide) _).upA (by decide) _⟩
              rw [upC_s]
              dsimp only at hk ⊢
              show ovl (hi' 68) (S.2.2.1.1 * 2) 2 A' k = ovl S.2.2.1.2 (S.2.2.1.1 * 2) 2 A' k
              by_cases hk2 : k < S.2.2.1.1 * 2
              · rw [ovl_out (by omega), ovl_out (by omega)]; exact sE k hk2
              · unfold ovl
                rw [if_pos (by omega), if_pos (by omega)]
            · rw [show pItems b L 2 3 (q + 1) 0 (fU 2) = _ from hpi] at hF
              refine rV q201_167 ?_
              exact hF q' p' _ rfl hp' ((sS.upK (by decide) _).upA (by decide) _)
          · exact absurd c103 (by decide)
        · exact absurd c77 (by decide)
    · exact absurd c55 (by decide)
  have from33 : ¬ (c = 115 ∧ S.2.2.2 = false) → ¬ (c = 99 ∧ S.2.1.1 < 7) → ∀ x2, wq G (0, 0) (d + 6) 201 33 [some (.ref 58), some (.int c), x2] [] (0, 0) (HP (rpS hi' q (-1) dp) hl f dr t) Q := by
    intro z1 z2 x2
    refine wq_iload_n q201_33 rfl ?_
    refine wq_bipush q201_34 ?_
    refine wq_icmp_ne q201_36 (fun c36 => ?_) (fun c36 => ?_)
    · exact bad z1 z2 (fun z => c36 z.1) _
    · refine wq_aload_n q201_39 rfl ?_
      refine wq_getI q201_40 rfl rfl ?_
      refine wq_bipush q201_43 ?_
      refine wq_icmp_ge q201_45 (fun c45 => ?_) (fun c45 => ?_)
      · rw [e29, show (6 : Int32) = nI 6 from rfl, nI_leI (by omega) (by omega)] at c45
        exact bad z1 z2 (fun z => by omega) _
      · rw [e29, show (6 : Int32) = nI 6 from rfl, nI_leI (by omega) (by omega)] at c45
        exact good (Or.inr (Or.inr ⟨c36, by omega⟩)) _
  have from18 : ¬ (c = 115 ∧ S.2.2.2 = false) → ∀ x2, wq G (0, 0) (d + 6) 201 18 [some (.ref 58), some (.int c), x2] [] (0, 0) (HP (rpS hi' q (-1) dp) hl f dr t) Q := by
    intro z1 x2
    refine wq_iload_n q201_18 rfl ?_
    refine wq_bipush q201_19 ?_
    refine wq_icmp_ne q201_21 (fun c21 => ?_) (fun c21 => ?_)
    · exact from33 z1 (fun z => c21 z.1) _
    · refine wq_aload_n q201_24 rfl ?_
      refine wq_getI q201_25 rfl rfl ?_
      refine wq_bipush q201_28 ?_
      refine wq_icmp_lt q201_30 (fun c30 => ?_) (fun c30 => ?_)
      · rw [e28, show (7 : Int32) = nI 7 from rfl, nI_ltI (by omega) (by omega)] at c30
        exact good (Or.inr (Or.inl ⟨c21, c30⟩)) _
      · rw [e28, show (7 : Int32) = nI 7 from rfl, nI_ltI (by omega) (by omega)] at c30
        exact from33 z1 (fun z => c30 z.2) _
  refine wq_iload_n q201_5 rfl ?_
  refine wq_bipush q201_6 ?_
  refine wq_icmp_ne q201_8 (fun c8 => ?_) (fun c8 => ?_)
  · exact from18 (fun z => c8 z.1) _
  · refine wq_aload_n q201_11 rfl ?_
    refine wq_getI q201_12 rfl rfl ?_
    refine wq_if_eq q201_15 (fun c15 => ?_) (fun c15 => ?_)
    · rw [e31] at c15
      have hru : S.2.2.2 = false := by
        cases h : S.2.2.2 with
        | false => rfl
        | true => rw [h] at c15; exact absurd c15 (by decide)
      exact good (Or.inl ⟨c8, hru⟩) _
    · rw [e31] at c15
      exact from18 (fun z => by rw [z.2] at c15; exact c15 rfl) _
theorem c_rfread_loop (hT : RT hi t bg L N b) : ∀ (m p : Nat) (S : FS) (hi' : Nat → Nat → Int32), p ≤ L → L ≤ p + m → 1 ≤ m → CR hi hi' S → FSok S →
    (∀ p' S' hi2 x2, pForts b L m p S = .inr (p', S') → p' ≤ L → CR hi hi2 S' → FSok S' → wq G (0, 0) (d + 7) 202 111 [some (.ref 58), x2] [] (0, 0) (HP (rpS hi2 p' (-1) dp) hl f dr t) Q) →
    (∀ q p' hi2 x2, pForts b L m p S = .inl q → p' ≤ L → q ≤ L → Rf hi hi2 → wq G (0, 0) (d + 7) 202 111 [some (.ref 58), x2] [] (0, 0) (HP (rpS hi2 p' (nI q) dp) hl f dr t) Q) →
    wq G (0, 0) (d + 7) 202 55 [some (.ref 58), some (.int 1)] [] (0, 0) (HP (rpS hi' p (-1) dp) hl f dr t) Q := by
  have hLm := hT.2.1
  intro m
  induction m with
  | zero => intro p S hi' hp hL hm1; omega
  | succ m ih =>
    intro p S hi' hp hLp _ hS hok hQ hF
    have hfc := pFC_ok (b := b) hp hok
    rw [pForts] at hQ hF
    have e11 : hI (HP (rpS hi' p (-1) dp) hl f dr t) 58 11 = -1 := rfl
    refine wq_iload_n q202_55 rfl ?_
    refine wq_if_eq q202_56 (fun c56 => ?_) (fun c56 => ?_)
    · exact absurd c56 (by decide)
    · refine wq_aload_n q202_59 rfl ?_
      refine wq_getI q202_60 rfl rfl ?_
      refine wq_iconst q202_63 ?_
      refine wq_icmp_ne q202_64 (fun c64 => ?_) (fun c64 => ?_)
      · exact absurd e11 c64
      · refine wq_aload_n q202_67 rfl ?_
        refine cV (As := []) q202_68 m_201 rfl rfl rfl ⟨by decide, rfl⟩ rfl (c_rfClause hT hS hok hp (fun p1 S1 hi2 h1 hS1 => ?_) (fun q1 p1 hi2 h1 hp1 hs1 => ?_))
        · obtain ⟨g1, g2, g3⟩ := hfc.2 p1 S1 h1
          have hT2 := hS1.2.2.2.2.2.2.rt hT
          have hsk := tpSkip_le (b := b) g2
          rw [h1, pB_r] at hQ hF
          have e11' : hI (HP (rpS hi2 p1 (-1) dp) hl f dr t) 58 11 = -1 := rfl
          refine wq_aload_n q202_71 rfl ?_
          refine wq_getI q202_72 rfl rfl ?_
          refine wq_iconst q202_75 ?_
          refine wq_icmp_ne q202_76 (fun c76 => ?_) (fun c76 => ?_)
          · exact absurd e11' c76
          · refine wq_aload_n q202_79 rfl ?_
            refine cV (As := []) q202_80 m_177 rfl rfl rfl ⟨by decide, rfl⟩ rfl (c_rlook hT2 g2 ?_)
            refine wq_bipush q202_83 ?_
            refine wq_icmp_ne q202_85 (fun c85 => ?_) (fun c85 => ?_)
            · rw [if_neg c85] at hQ
              refine wq_iconst q202_92 ?_
              refine wq_istore_n (ls' := [_, _]) q202_93 rfl ?_
              refine wq_iload_n q202_94 rfl ?_
              refine wq_if_eq q202_95 (fun c95 => ?_) (fun c95 => ?_)
              · refine wq_iload_n q202_55 rfl ?_
                refine wq_if_eq q202_56 (fun c56 => ?_) (fun c56 => ?_)
                · exact hQ _ S1 hi2 _ rfl hsk.2 hS1 g3
                · exact absurd rfl c56
              · exact absurd rfl c95
            · rw [if_pos c85] at hQ hF
              have hlt := tat_lt c85 (by decide)
              have e10 : hI (HP (rpS hi2 (tpSkip b L p1) (-1) dp) hl f dr t) 58 10 = nI (tpSkip b L p1) := rfl
              refine wq_iconst q202_88 ?_
              refine wq_goto q202_89 ?_
              refine wq_istore_n (ls' := [_, _]) q202_93 rfl ?_
              refine wq_iload_n q202_94 rfl ?_
              refine wq_if_eq q202_95 (fun c95 => ?_) (fun c95 => ?_)
              · exact absurd c95 (by decide)
              · refine wq_aload_n q202_98 rfl ?_
                refine wq_dup q202_99 rfl ?_
                refine wq_getI q202_100 rfl rfl ?_
                refine wq_iconst q202_103 ?_
                refine wq_iadd q202_104 ?_
                refine wq_putI q202_105 rfl rfl rfl rfl ?_
                refine wq_goto q202_108 ?_
                rw [e10, nI_1, hpS, rpS_p]
                by_cases hm0 : m = 0
                · omega
                · exact ih _ S1 hi2 (by omega) (by omega) (by omega) hS1 g3 hQ hF
        · have hq1 := hfc.1 q1 h1
          rw [h1] at hF
          refine wq_aload_n q202_71 rfl ?_
          refine wq_getI q202_72 rfl rfl ?_
          refine wq_iconst q202_75 ?_
          refine wq_icmp_ne q202_76 (fun c76 => ?_) (fun c76 => ?_)
          · refine wq_iconst q202_92 ?_
            refine wq_istore_n (ls' := [_, _]) q202_93 rfl ?_
            refine wq_iload_n q202_94 rfl ?_
            refine wq_if_eq q202_95 (fun c95 => ?_) (fun c95 => ?_)
            · refine wq_iload_n q202_55 rfl ?_
              refine wq_if_eq q202_56 (fun c56 => ?_) (fun c56 => ?_)
              · exact hF q1 _ hi2 _ rfl hp1 hq1 hs1
              · exact absurd rfl c56
            · exact absurd rfl c95
          · exact absurd c76 (nI_nm1 (by omega))
theorem c_rus_loop : ∀ (m k : Nat) (Z : Nat → Int32), k + m = 4 → (∀ j, j < k → Z j = fU 0 j) → (∀ Z' x1, (∀ j, j < 4 → Z' j = fU 0 j) → wq G (0, 0) (d + 7) 202 53 [some (.ref 58), x1] [] (0, 0) (HP (rpS (upC hi 64 Z') p (-1) dp) hl f dr t) Q) →
    wq G (0, 0) (d + 7) 202 30 [some (.ref 58), some (.int (nI k))] [] (0, 0) (HP (rpS (upC hi 64 Z) p (-1) dp) hl f dr t) Q := by
  intro m
  induction m with
  | zero =>
    intro k Z hm hZ K
    obtain rfl : k = 4 := by omega
    refine wq_iload_n q202_30 rfl ?_
    refine wq_iconst q202_31 ?_
    refine wq_icmp_ge q202_32 (fun c32 => ?_) (fun c32 => ?_)
    · exact K Z _ hZ
    · exact absurd (by decide) c32
  | succ m ih =>
    intro k Z hm hZ K
    obtain ⟨v1, v2, v3⟩ := mlu_ok 0 (by decide) k (show k < 4 by omega)
    refine wq_iload_n q202_30 rfl ?_
    refine wq_iconst q202_31 ?_
    refine wq_icmp_ge q202_32 (fun c32 => ?_) (fun c32 => ?_)
    · rw [show (4 : Int32) = nI 4 from rfl, nI_leI (by omega) (by omega)] at c32
      omega
    · refine wq_aload_n q202_35 rfl ?_
      refine wq_getR q202_36 rfl rfl rfl ?_
      refine wq_iload_n q202_39 rfl ?_
      refine wq_bipush q202_40 ?_
      refine wq_iload_n q202_42 rfl ?_
      refine cS' (As := [_, _]) q202_43 m_199 rfl rfl rfl (c_usual ?_)
      rw [show uV 115 (nI k) = fU 0 k from v3]
      refine sI q202_46 rfl (rfl) (by show k < 4; omega) (by first | decide | omega) rfl ?_
      refine wq_iinc (ls' := [_, _]) q202_47 rfl rfl ?_
      refine wq_goto q202_50 ?_
      rw [hpS, rpS_C (by decide), nI_1]
      refine ih (k + 1) _ (by omega) (fun j hj => ?_) K
      by_cases h : j = k
      · rw [h, vu_s]
      · rw [vu_o _ _ h]
        exact hZ j (by omega)
/-- a fort is read -/
theorem c_readFort (h6 : hi 58 6 = nI L) (hLm : L ≤ 240) (hb : TpB b L) (hby : ∀ j, j < L → hi 59 j = (b j).toInt8.toInt32)
    (hQ : ∀ p S hi', pFortT b L = .inr (p, S) → hi' 58 11 = -1 → CF hi' S → RS hi hi' → Q none (HP hi' hl f dr 59))
    (hF : ∀ q hi', pFortT b L = .inl q → hi' 58 11 = nI q → RS hi hi' → Q none (HP hi' hl f dr 59)) :
    Ct G (0, 0) (d + 8) 202 [.ref 58] (HP hi hl f dr t) Q := by
  have h0 := pForts_ok (b := b) (L := L) 240 0 fS0 (Nat.zero_le _) fS0_ok
  have e6 : hI (HP hi hl f dr t) 58 6 = nI L := h6
  generalize hg : up2 (up2 (up2 (up2 (up2 hi 58 8 (nI 0)) 58 9 (nI L)) 58 28 0) 58 29 0) 58 31 0 = h1
  have hrs : RS hi h1 := by
    subst hg
    exact ((((RS.upK (by decide) _).tr (RS.upK (by decide) _)).tr (RS.upK (by decide) _)).tr (RS.upK (by decide) _)).tr (RS.upK (by decide) _)
  have hT : RT h1 59 0 L 240 b := by
    subst hg
    exact ⟨Or.inl ⟨rfl, rfl⟩, hLm, by omega, hb, rfl, rfl, fun j hj => by rw [Nat.zero_add]; exact hby j hj⟩
  have rfrs : ∀ hi2, Rf h1 hi2 → RS h1 hi2 := fun hi2 h => ⟨fun a ha => h.1 a (fun z => ha (by simp only [List.mem_cons, List.not_mem_nil, or_false] at z; rcases z with rfl | rfl | rfl | rfl <;> decide)), fun k hk => h.2 k (fun z => hk (by simp only [List.mem_cons, List.not_mem_nil, or_false] at z; rcases z with rfl | rfl | rfl <;> decide)), fun j hj => by rw [h.1 69 (by decide)], fun j hj => by rw [h.1 70 (by decide)]⟩
  have good : ∀ p' S' hi2 x2, pForts b L 240 0 fS0 = .inr (p', S') → p' ≤ L → CR h1 hi2 S' → FSok S' → wq G (0, 0) (d + 8) 202 111 [some (.ref 58), x2] [] (0, 0) (HP (rpS hi2 p' (-1) (h1 58 12)) hl f dr 59) Q := by
    intro p' S' hi2 x2 hps hp' hS hok
    have hT2 := hS.2.2.2.2.2.2.rt hT
    have hsk := tpSkip_le (b := b) hp'
    have hE : pFortT b L = pFortE b L p' S' := by unfold pFortT; rw [hps]; rfl
    obtain ⟨s3, s4, s5, sR, sC, sE, sS⟩ := hS
    have n7 := hok.2.1
    have n6 := hok.2.2.2.1
    have e11 : hI (HP (rpS hi2 p' (-1) (h1 58 12)) hl f dr 59) 58 11 = -1 := rfl
    have e28 : ∀ p fl, hI (HP (rpS hi2 p fl (h1 58 12)) hl f dr 59) 58 28 = nI S'.2.1.1 := fun _ _ => s3
    have e29 : ∀ p fl, hI (HP (rpS hi2 p fl (h1 58 12)) hl f dr 59) 58 29 = nI S'.2.2.1.1 := fun _ _ => s4
    have eW : ∀ p fl, hI (HP (rpS hi2 p fl (h1 58 12)) hl f dr 59) 64 0 = S'.1 0 := fun _ _ => sR 0 (by decide)
    have fail : ¬ (tat b L (tpSkip b L p') = -1 ∧ 2 ≤ S'.2.1.1 ∧ 1 ≤ S'.2.2.1.1 ∧ S'.1 0 < nI S'.2.1.1) → wq G (0, 0) (d + 8) 202 155 [some (.ref 58), x2] [] (0, 0) (HP (rpS hi2 (tpSkip b L p') (-1) (h1 58 12)) hl f dr 59) Q := by
      intro hn
      unfold pFortE at hE
      rw [if_neg hn] at hE
      refine wq_aload_n q202_155 rfl ?_
      refine cV (As := []) q202_156 m_178 rfl rfl rfl ⟨by decide, rfl⟩ rfl (c_rfails ?_)
      refine wq_pop q202_159 rfl ?_
      refine rV q202_160 ?_
      rw [tpF_1]
      exact hF _ _ hE rfl (hrs.tr ((rfrs _ sS).tr (RS.rp _ _ _)))
    refine wq_aload_n q202_111 rfl ?_
    refine wq_getI q202_112 rfl rfl ?_
    refine wq_iconst q202_115 ?_
    refine wq_icmp_ne q202_116 (fun c116 => ?_) (fun c116 => ?_)
    · exact absurd e11 c116
    · refine wq_aload_n q202_119 rfl ?_
      refine cV (As := []) q202_120 m_177 rfl rfl rfl ⟨by decide, rfl⟩ rfl (c_rlook hT2 hp' ?_)
      refine wq_iconst q202_123 ?_
      refine wq_icmp_ne q202_124 (fun c124 => ?_) (fun c124 => ?_)
      · exact fail (fun z => c124 z.1)
      · refine wq_aload_n q202_127 rfl ?_
        refine wq_getI q202_128 rfl rfl ?_
        refine wq_iconst q202_131 ?_
        refine wq_icmp_lt q202_132 (fun c132 => ?_) (fun c132 => ?_)
        · rw [e28, show (2 : Int32) = nI 2 from rfl, nI_ltI (by omega) (by omega)] at c132
          exact fail (fun z => by omega)
        · rw [e28, show (2 : Int32) = nI 2 from rfl, nI_ltI (by omega) (by omega)] at c132
          refine wq_aload_n q202_135 rfl ?_
          refine wq_getI q202_136 rfl rfl ?_
          refine wq_if_eq q202_139 (fun c139 => ?_) (fun c139 => ?_)
          · rw [e29, show (0 : Int32) = nI 0 from rfl, nI_eq (by omega) (by omega)] at c139
            exact fail (fun z => by omega)
          · rw [e29, show (0 : Int32) = nI 0 from rfl, nI_eq (by omega) (by omega)] at c139
            refine wq_aload_n q202_142 rfl ?_
            refine wq_getR q202_143 rfl rfl rfl ?_
            refine wq_iconst q202_146 ?_
            refine aI q202_147 rfl (rfl) (by decide) (by first | decide | omega) ?_
            rw [eW]
            refine wq_aload_n q202_148 rfl ?_
            refine wq_getI q202_149 rfl rfl ?_
            refine wq_icmp_lt q202_152 (fun c152 => ?_) (fun c152 => ?_)
            · rw [e28] at c152
              unfold pFortE at hE
              rw [if_pos ⟨c124, by omega, by omega, c152⟩] at hE
              refine rV q202_160 ?_
              exact hQ _ S' _ hE rfl ⟨s3, s4, sR, sC, sE⟩ (hrs.tr ((rfrs _ sS).tr (RS.rp _ _ _)))
            · rw [e28] at c152
              exact fail (fun z => c152 z.2.2.2)
  have bad : ∀ q p' hi2 x2, pForts b L 240 0 fS0 = .inl q → p' ≤ L → q ≤ L → Rf h1 hi2 → wq G (0, 0) (d + 8) 202 111 [some (.ref 58), x2] [] (0, 0) (HP (rpS hi2 p' (nI q) (h1 58 12)) hl f dr 59) Q := by
    intro q p' hi2 x2 hps hp' hq hsm
    have hE : pFortT b L = .inl q := by unfold pFortT; rw [hps]; rfl
    refine wq_aload_n q202_111 rfl ?_
    refine wq_getI q202_112 rfl rfl ?_
    refine wq_iconst q202_115 ?_
    refine wq_icmp_ne q202_116 (fun c116 => ?_) (fun c116 => ?_)
    · refine rV q202_160 ?_
      exact hF _ _ hE rfl (hrs.tr ((rfrs _ hsm).tr (RS.rp _ _ _)))
    · exact absurd c116 (nI_nm1 (by omega))
  have hchain : up2 (up2 (up2 (stsS hi 0 L) 58 28 0) 58 29 0) 58 31 0 = rpS (upC h1 64 (h1 64)) 0 (-1) (h1 58 12) := by
    rw [upC_self _ _ rfl]
    subst hg
    funext a k
    by_cases ha : a = 58
    · subst ha
      by_cases h8 : k = 8
      · subst h8; rfl
      by_cases h9 : k = 9
      · subst h9; rfl
      by_cases h10 : k = 10
      · subst h10; rfl
      by_cases h11 : k = 11
      · subst h11; rfl
      by_cases h12 : k = 12
      · subst h12; rfl
      by_cases h28 : k = 28
      · subst h28; rfl
      by_cases h29 : k = 29
      · subst h29; rfl
      by_cases h31 : k = 31
      · subst h31; rfl
      simp [stsS, rpS, up2, va_up, h8, h9, h10, h11, h12, h28, h29, h31]
    · simp [stsS, rpS, up2, ha]
  refine Ct_of (ls := [_, _]) m_202.1.2.2.1 (Nat.le_of_ble_eq_true rfl) rfl ?_
  refine wq_aload_n q202_0 rfl ?_
  refine wq_aload_n q202_1 rfl ?_
  refine wq_getR q202_2 rfl rfl rfl ?_
  refine wq_iconst q202_5 ?_
  refine wq_aload_n q202_6 rfl ?_
  refine wq_getI q202_7 rfl rfl ?_
  rw [e6]
  refine cV (As := [_, _, _]) q202_10 m_192 rfl rfl rfl ⟨by decide, rfl⟩ rfl (c_starts (bg := 0) ?_)
  refine wq_aload_n q202_13 rfl ?_
  refine wq_iconst q202_14 ?_
  refine wq_putI q202_15 rfl rfl rfl rfl ?_
  refine wq_aload_n q202_18 rfl ?_
  refine wq_iconst q202_19 ?_
  refine wq_putI q202_20 rfl rfl rfl rfl ?_
  refine wq_aload_n q202_23 rfl ?_
  refine wq_iconst q202_24 ?_
  refine wq_putI q202_25 rfl rfl rfl rfl ?_
  refine wq_iconst q202_28 ?_
  refine wq_istore_n (ls' := [_, _]) q202_29 rfl ?_
  rw [hpS, hpS, hpS, hchain]
  refine c_rus_loop (d := d + 1) 4 0 (h1 64) (by omega) (fun j hj => by omega) (fun Z' x1 hZ => ?_)
  refine wq_iconst q202_53 ?_
  refine wq_istore_n (ls' := [_, _]) q202_54 rfl ?_
  refine c_rfread_loop (d := d + 1) hT 240 0 fS0 _ (by omega) (by omega) (by omega) ⟨?_, ?_, ?_, fun k hk => ?_, fun k hk => ?_, fun k hk => ?_, ?_⟩ fS0_ok good bad
  · subst hg; rfl
  · subst hg; rfl
  · subst hg; rfl
  · exact hZ k hk
  · exact absurd hk (by show ¬ k < 0 * 5; omega)
  · exact absurd hk (by show ¬ k < 0 * 2; omega)
  · exact Rf.upA ⟨fun _ _ => rfl, fun _ _ => rfl⟩ (by decide) _
/-- a digit of a step -/
theorem c_rdigit (hT : RT hi t bg L N b) (hp : p ≤ L) (hQ : ∀ p' v, pDig b L p = .inr (p', v) → Q (some (.int v)) (HP (rpS hi p' (-1) dp) hl f dr t)) (hF : ∀ q, pDig b L p = .inl q → Q (some (.int 0)) (HP (rpS hi (tpSkip b L p) (nI q) dp) hl f dr t)) : Ct G (0, 0) (d + 1) 203 [.ref 58] (HP (rpS hi p (-1) dp) hl f dr t) Q := by
  have hs := tpSkip_le (b := b) hp
  unfold pDig at hQ hF
  generalize hq : tpSkip b L p = q at hs hQ hF
  refine Ct_of (ls := [_, _]) m_203.1.2.2.1 (Nat.le_of_ble_eq_true rfl) rfl ?_
  refine wq_aload_n q203_0 rfl ?_
  refine cV (As := []) q203_1 m_177 rfl rfl rfl ⟨by decide, rfl⟩ rfl (c_rlook hT hp ?_)
  refine wq_istore_n (ls' := [_, _]) q203_4 rfl ?_
  refine wq_aload_n q203_5 rfl ?_
  refine cV (As := []) q203_6 m_181 rfl rfl rfl ⟨by decide, rfl⟩ rfl (c_risDigit hT (by rw [hq]; exact hs.2) ?_)
  refine wq_if_ne q203_9 (fun c9 => ?_) (fun c9 => ?_)
  · rw [hq] at c9 ⊢
    have c := p10 c9
    rw [if_pos c] at hQ
    have e10 : hI (HP (rpS hi q (-1) dp) hl f dr t) 58 10 = nI q := rfl
    refine wq_aload_n q203_19 rfl ?_
    refine wq_dup q203_20 rfl ?_
    refine wq_getI q203_21 rfl rfl ?_
    refine wq_iconst q203_24 ?_
    refine wq_iadd q203_25 ?_
    refine wq_putI q203_26 rfl rfl rfl rfl ?_
    refine wq_iload_n q203_29 rfl ?_
    refine wq_bipush q203_30 ?_
    refine wq_isub q203_32 ?_
    refine rI q203_33 rfl ?_
    rw [e10, nI_1, hpS, rpS_p]
    exact hQ _ _ rfl
  · rw [hq] at c9 ⊢
    have c := p01 c9
    rw [if_neg c] at hF
    refine wq_aload_n q203_12 rfl ?_
    refine cV (As := []) q203_13 m_178 rfl rfl rfl ⟨by decide, rfl⟩ rfl (c_rfails ?_)
    refine wq_pop q203_16 rfl ?_
    refine wq_iconst q203_17 ?_
    refine rI q203_18 rfl ?_
    rw [tpF_1]
    exact hF _ rfl
theorem c_rstep {i : Nat} (hi' : i < 16) (hT : RT hi t bg L N b) (hp : p ≤ L) {F : Nat → Int32}
    (hQ : ∀ p' s, pStep b L p = .inr (p', s) → Q none (HP (rpS (upC hi 69 (put3 F (64 + i) s)) p' (-1) dp) hl f dr t))
    (hF : ∀ q p' F', pStep b L p = .inl q → p' ≤ L → (∀ j, j < 192 → F' j = F j) → Q none (HP (rpS (upC hi 69 F') p' (nI q) dp) hl f dr t)) :
    Ct G (0, 0) (d + 5) 204 [.ref 58, .int (nI ((64 + i) * 3))] (HP (rpS (upC hi 69 F) p (-1) dp) hl f dr t) Q := by
  have hLm := hT.2.1
  have hs := tpSkip_le (b := b) hp
  have hTA : ∀ A, RT (upC hi 69 A) t bg L N b := fun A => hT.upA (by decide) A
  have ai : nI ((64 + i) * 3) + 1 = nI ((64 + i) * 3 + 1) := nI_1 _
  have aj : nI ((64 + i) * 3) + 2 = nI ((64 + i) * 3 + 2) := nI_add _ 2
  have put : ∀ (F : Nat → Int32) (p : Nat) (fl : Int32) (j : Nat) (x : Int32), stI (HP (rpS (upC hi 69 F) p fl dp) hl f dr t) 69 j x = HP (rpS (upC hi 69 (va_up F j x)) p fl dp) hl f dr t := fun F p fl j x => by
    rw [hpS, rpS_C (by decide)]
  have lo : ∀ (F : Nat → Int32) (x y z : Int32) (j : Nat), j < 192 → va_up (va_up (va_up F ((64 + i) * 3) x) ((64 + i) * 3 + 1) y) ((64 + i) * 3 + 2) z j = F j := fun F x y z j hj => by
    rw [vu_o _ _ (by omega), vu_o _ _ (by omega), vu_o _ _ (by omega)]
  unfold pStep at hQ hF
  refine Ct_of (ls := [_, _, _]) m_204.1.2.2.1 (Nat.le_of_ble_eq_true rfl) rfl ?_
  refine wq_ldcwS q204_0 ?_
  refine wq_aload_n q204_3 rfl ?_
  refine cV (As := []) q204_4 m_177 rfl rfl rfl ⟨by decide, rfl⟩ rfl (c_rlook (hTA _) hp ?_)
  refine cS' (As := [_, _]) q204_7 m_195 rfl rfl rfl (c_spotOf (j := 4) (by decide) ?_)
  generalize hq : tpSkip b L p = q at hs hQ hF
  generalize hc : tat b L q = c at hQ hF
  have e10 : hI (HP (rpS (upC hi 69 F) q (-1) dp) hl f dr t) 58 10 = nI q := rfl
  rcases liO_nm (j := 4) (x := c) (by decide) with z | ⟨m, m1, m2, m3⟩
  · rw [z] at hF ⊢
    rw [if_pos rfl] at hF
    refine wq_istore_n (ls' := [_, _, _]) q204_10 rfl ?_
    refine wq_iload_n q204_11 rfl ?_
    refine wq_iconst q204_12 ?_
    refine wq_icmp_ne q204_13 (fun c13 => ?_) (fun c13 => ?_)
    · exact absurd rfl c13
    · refine wq_aload_n q204_16 rfl ?_
      refine cV (As := []) q204_17 m_178 rfl rfl rfl ⟨by decide, rfl⟩ rfl (c_rfails ?_)
      refine wq_pop q204_20 rfl ?_
      refine rV q204_21 ?_
      rw [tpF_1]
      exact hF q q F rfl hs.2 (fun _ _ => rfl)
  · have hm5 : m < 5 := m1
    have hlt : q < L := tat_lt hc (fun z => by have := (cB_ok 4 (by decide) m (by omega)).1; rw [m3, z] at this; exact absurd this (by decide))
    have hd1 := pDig_ok (b := b) (L := L) (p := q + 1) (by omega)
    rw [m2] at hQ hF ⊢
    rw [if_neg (nI_nm1 (by omega))] at hQ hF
    refine wq_istore_n (ls' := [_, _, _]) q204_10 rfl ?_
    refine wq_iload_n q204_11 rfl ?_
    refine wq_iconst q204_12 ?_
    refine wq_icmp_ne q204_13 (fun c13 => ?_) (fun c13 => ?_)
    · refine wq_aload_n q204_22 rfl ?_
      refine wq_dup q204_23 rfl ?_
      refine wq_getI q204_24 rfl rfl ?_
      refine wq_iconst q204_27 ?_
      refine wq_iadd q204_28 ?_
      refine wq_putI q204_29 rfl rfl rfl rfl ?_
      rw [e10, nI_1, hpS, rpS_p]
      refine wq_aload_n q204_32 rfl ?_
      refine wq_getR q204_33 rfl rfl rfl ?_
      refine wq_iload_n q204_36 rfl ?_
      refine wq_iload_n q204_37 rfl ?_
      refine sI q204_38 rfl (rfl) (by show (64 + i) * 3 < 240; omega) (by first | decide | omega) rfl ?_
      rw [put]
      refine wq_aload_n q204_39 rfl ?_
      refine wq_getR q204_40 rfl rfl rfl ?_
      refine wq_iload_n q204_43 rfl ?_
      refine wq_iconst q204_44 ?_
      refine wq_iadd q204_45 ?_
      rw [ai]
      refine wq_iload_n q204_46 rfl ?_
      refine wq_iconst q204_47 ?_
      refine wq_icmp_ge q204_48 (fun c48 => ?_) (fun c48 => ?_)
      · /- no digit -/
        rw [show (2 : Int32) = nI 2 from rfl, nI_leI (by omega) (by omega)] at c48
        have h0 : ¬ nI m = 0 := by rw [show (0 : Int32) = nI 0 from rfl, nI_eq (by omega) (by omega)]; omega
        have h1 : ¬ nI m = 1 := by rw [show (1 : Int32) = nI 1 from rfl, nI_eq (by omega) (by omega)]; omega
        rw [if_neg h0, if_neg h1] at hQ
        refine wq_iconst q204_58 ?_
        refine sI q204_59 rfl (rfl) (by show (64 + i) * 3 + 1 < 240; omega) (by first | decide | omega) rfl ?_
        rw [put]
        refine wq_aload_n q204_60 rfl ?_
        refine wq_getR q204_61 rfl rfl rfl ?_
        refine wq_iload_n q204_64 rfl ?_
        refine wq_iconst q204_65 ?_
        refine wq_iadd q204_66 ?_
        rw [aj]
        refine wq_iconst q204_67 ?_
        refine sI q204_68 rfl (rfl) (by show (64 + i) * 3 + 2 < 240; omega) (by first | decide | omega) rfl ?_
        rw [put]
        have e11 : hI (HP (rpS (upC hi 69 (va_up (va_up (va_up F ((64 + i) * 3) (nI m)) ((64 + i) * 3 + 1) (-1)) ((64 + i) * 3 + 2) (-1))) (q + 1) (-1) dp) hl f dr t) 58 11 = -1 := rfl
        refine wq_aload_n q204_69 rfl ?_
        refine wq_getI q204_70 rfl rfl ?_
        refine wq_iconst q204_73 ?_
        refine wq_icmp_ne q204_74 (fun c74 => ?_) (fun c74 => ?_)
        · exact absurd e11 c74
        · refine wq_iload_n q204_77 rfl ?_
          refine wq_iconst q204_78 ?_
          refine wq_icmp_ne q204_79 (fun c79 => ?_) (fun c79 => ?_)
          · refine rV q204_94 ?_
            exact hQ (q + 1) (nI m, -1, -1) rfl
          · exact absurd c79 h1
      · rw [show (2 : Int32) = nI 2 from rfl, nI_leI (by omega) (by omega)] at c48
        refine wq_aload_n q204_51 rfl ?_
        refine cV (As := []) q204_52 m_203 rfl rfl rfl ⟨by decide, rfl⟩ rfl (c_rdigit (hTA _) (by omega) (fun p' v hd => ?_) (fun q' hd => ?_))
        · have hp' := hd1.2 p' v hd
          have hd2 := pDig_ok (b := b) (L := L) hp'.2
          refine wq_goto q204_55 ?_
          refine sI q204_59 rfl (rfl) (by show (64 + i) * 3 + 1 < 240; omega) (by first | decide | omega) rfl ?_
          rw [put]
          refine wq_aload_n q204_60 rfl ?_
          refine wq_getR q204_61 rfl rfl rfl ?_
          refine wq_iload_n q204_64 rfl ?_
          refine wq_iconst q204_65 ?_
          refine wq_iadd q204_66 ?_
          rw [aj]
          refine wq_iconst q204_67 ?_
          refine sI q204_68 rfl (rfl) (by show (64 + i) * 3 + 2 < 240; omega) (by first | decide | omega) rfl ?_
          rw [put]
          have e11 : hI (HP (rpS (upC hi 69 (va_up (va_up (va_up F ((64 + i) * 3) (nI m)) ((64 + i) * 3 + 1) v) ((64 + i) * 3 + 2) (-1))) p' (-1) dp) hl f dr t) 58 11 = -1 := rfl
          refine wq_aload_n q204_69 rfl ?_
          refine wq_getI q204_70 rfl rfl ?_
          refine wq_iconst q204_73 ?_
          refine wq_icmp_ne q204_74 (fun c74 => ?_) (fun c74 => ?_)
          · exact absurd e11 c74
          · refine wq_iload_n q204_77 rfl ?_
            refine wq_iconst q204_78 ?_
            refine wq_icmp_ne q204_79 (fun c79 => ?_) (fun c79 => ?_)
            · have h0 : nI m = 0 := by
                have : m = 0 ∨ m = 1 := by omega
                rcases this with rfl | rfl
                · rfl
                · exact absurd rfl c79
              rw [h0, if_pos rfl, hd, pB_r] at hQ
              refine rV q204_94 ?_
              rw [h0]
              exact hQ p' (0, v, -1) rfl
            · rw [c79] at hQ hF ⊢
              rw [if_neg (by decide), if_pos rfl, hd, pB_r] at hQ hF
              refine wq_aload_n q204_82 rfl ?_
              refine wq_getR q204_83 rfl rfl rfl ?_
              refine wq_iload_n q204_86 rfl ?_
              refine wq_iconst q204_87 ?_
              refine wq_iadd q204_88 ?_
              rw [aj]
              refine wq_aload_n q204_89 rfl ?_
              refine cV (As := []) q204_90 m_203 rfl rfl rfl ⟨by decide, rfl⟩ rfl (c_rdigit (hTA _) hp'.2 (fun p2 v2 hdd => ?_) (fun q2 hdd => ?_))
              · rw [hdd] at hQ
                refine sI q204_93 rfl (rfl) (by show (64 + i) * 3 + 2 < 240; omega) (by first | decide | omega) rfl ?_
                refine rV q204_94 ?_
                rw [put, vu_uu]
                exact hQ p2 (1, v, v2) rfl
              · rw [hdd] at hF
                refine sI q204_93 rfl (rfl) (by show (64 + i) * 3 + 2 < 240; omega) (by first | decide | omega) rfl ?_
                refine rV q204_94 ?_
                rw [put, vu_uu]
                exact hF q2 _ _ rfl (tpSkip_le hp'.2).2 (lo _ _ _ _)
        · have hq' := hd1.1 q' hd
          refine wq_goto q204_55 ?_
          refine sI q204_59 rfl (rfl) (by show (64 + i) * 3 + 1 < 240; omega) (by first | decide | omega) rfl ?_
          rw [put]
          refine wq_aload_n q204_60 rfl ?_
          refine wq_getR q204_61 rfl rfl rfl ?_
          refine wq_iload_n q204_64 rfl ?_
          refine wq_iconst q204_65 ?_
          refine wq_iadd q204_66 ?_
          rw [aj]
          refine wq_iconst q204_67 ?_
          refine sI q204_68 rfl (rfl) (by show (64 + i) * 3 + 2 < 240; omega) (by first | decide | omega) rfl ?_
          rw [put]
          refine wq_aload_n q204_69 rfl ?_
          refine wq_getI q204_70 rfl rfl ?_
          refine wq_iconst q204_73 ?_
          refine wq_icmp_ne q204_74 (fun c74 => ?_) (fun c74 => ?_)
          · refine rV q204_94 ?_
            have : m = 0 ∨ m = 1 := by omega
            rcases this with rfl | rfl
            · rw [if_pos (show nI 0 = 0 from rfl), hd] at hF
              exact hF q' _ _ rfl (tpSkip_le (by omega)).2 (lo _ _ _ _)
            · rw [if_neg (by decide), if_pos (show nI 1 = 1 from rfl), hd] at hF
              exact hF q' _ _ rfl (tpSkip_le (by omega)).2 (lo _ _ _ _)
          · exact absurd c74 (nI_nm1 (by omega))
    · exact absurd c13 (nI_nm1 (by omega))
end REFREAD
