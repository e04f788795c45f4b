/-! THE REFERENCE reads a plan; faults -/
theorem iiB_in {x : Int32} {a b : Int64} (a' b' : Int32) (ha : a'.toInt64 = a) (hb : b'.toInt64 = b) : iiB x.toInt64 a b = true ↔ a' ≤ x ∧ x ≤ b' := by
  subst ha hb
  exact iiB_i
theorem iiB_3 {x : Int32} : iiB x.toInt64 0 2 = inB x 3 := by
  have h := iiB_in (x := x) (a := 0) (b := 2) 0 2 rfl rfl
  rw [Bool.eq_iff_iff, h]
  unfold inB
  simp only [Bool.and_eq_true, decide_eq_true_eq]
  rw [Int32.le_iff_toInt_le, Int32.le_iff_toInt_le, Int32.lt_iff_toInt_lt]
  rw [show (2 : Int32).toInt = 2 from rfl, show (3 : Int32).toInt = 3 from rfl]
  omega
/-- the tape of the reference -/
def RTp (hi : Nat → Nat → Int32) (L : Nat) (b : Nat → Int32) : Prop := hi 58 6 = nI L ∧ L ≤ 240 ∧ TpB b L ∧ ∀ j, j < L → hi 59 j = (b j).toInt8.toInt32
theorem RTp.moved {hi hi' : Nat → Nat → Int32} {L : Nat} {b : Nat → Int32} (h : RTp hi L b) (h1 : hi' 58 6 = hi 58 6) (h2 : hi' 59 = hi 59) : RTp hi' L b := ⟨h1.trans h.1, h.2.1, h.2.2.1, fun j hj => by rw [h2]; exact h.2.2.2 j hj⟩
section REFPLAN
variable {G : ph_G} {d f dr t bg L N p : Nat} {hi hi' : Nat → Nat → Int32} {hl : Nat → Nat → Int64} {fl dp : Int32} {Q : Option Value → ph_H → Prop} {b : Nat → Int32}
theorem c_rplan_loop (hT : RT hi t bg L N b) : ∀ (m i p : Nat) (P F : Nat → Int32), i + m = 16 → 1 ≤ m → p ≤ L → (∀ j, j < i * 3 → F (192 + j) = P j) → (∀ j, j < 192 → F j = hi 69 j) →
    (∀ q n P' F' x2, pSteps b L m i p P = .inr (q, (n, P')) → q ≤ L → tpSkip b L q = q → n ≤ 16 → (∀ j, j < n * 3 → F' (192 + j) = P' j) → (∀ j, j < 192 → F' j = hi 69 j) → wq G (0, 0) (d + 6) 205 91 [some (.ref 58), some (.int (nI n)), x2] [] (0, 0) (HP (rpS (upC hi 69 F') q (-1) dp) hl f dr t) Q) →
    (∀ q n P' F', pSteps b L m i p P = .inr (q, (n, P')) → tpSkip b L q = q → tat b L q = 59 → (∀ j, j < 192 → F' j = hi 69 j) → Q none (HP (rpS (upC hi 69 F') q (nI q) dp) hl f dr t)) →
    (∀ q p' F', pSteps b L m i p P = .inl q → (∀ j, j < 192 → F' j = hi 69 j) → Q none (HP (rpS (upC hi 69 F') p' (nI q) dp) hl f dr t)) →
    wq G (0, 0) (d + 6) 205 17 [some (.ref 58), some (.int (nI i)), some (.int 1)] [] (0, 0) (HP (rpS (upC hi 69 F) p (-1) dp) hl f dr t) Q := by
  have hLm := hT.2.1
  have hTA : ∀ A, RT (upC hi 69 A) t bg L N b := fun A => hT.upA (by decide) A
  intro m
  induction m with
  | zero => intro i p P F hm h1; omega
  | succ m ih =>
    intro i p P F hm h1 hp hF0 hlo hA hB hF
    have hps := pStep_ok (b := b) (L := L) hp
    rw [pSteps] at hA hB hF
    have pf : ∀ s, (∀ j, j < (i + 1) * 3 → put3 F (64 + i) s (192 + j) = put3 P i s j) ∧ (∀ j, j < 192 → put3 F (64 + i) s j = hi 69 j) := by
      intro s
      refine ⟨fun j hj => ?_, fun j hj => ?_⟩
      · by_cases h0 : j < i * 3
        · rw [put3_o (by omega), put3_o (by omega)]
          exact hF0 j h0
        · have : j = i * 3 ∨ j = i * 3 + 1 ∨ j = i * 3 + 2 := by omega
          rcases this with rfl | rfl | rfl
          · rw [show 192 + i * 3 = (64 + i) * 3 by omega, put3_0, put3_0]
          · rw [show 192 + (i * 3 + 1) = (64 + i) * 3 + 1 by omega, put3_1, put3_1]
          · rw [show 192 + (i * 3 + 2) = (64 + i) * 3 + 2 by omega, put3_2, put3_2]
      · rw [put3_o (by omega)]
        exact hlo j hj
    refine wq_iload_n q205_17 rfl ?_
    refine wq_if_eq q205_18 (fun c18 => ?_) (fun c18 => ?_)
    · exact absurd c18 (by decide)
    · refine wq_aload_n q205_21 rfl ?_
      refine wq_iconst q205_22 ?_
      refine wq_bipush q205_23 ?_
      refine wq_iload_n q205_25 rfl ?_
      refine wq_iadd q205_26 ?_
      refine wq_imul q205_27 ?_
      rw [show (3 : Int32) * (64 + nI i) = nI ((64 + i) * 3) by rw [show (64 : Int32) = nI 64 from rfl, nI_add, show (3 : Int32) = nI 3 from rfl, pk_mul, Nat.mul_comm]]
      refine cV (As := [_]) q205_28 m_204 rfl rfl rfl ⟨by decide, rfl⟩ rfl (c_rstep (F := F) (by omega) hT hp (fun p' s hs => ?_) (fun q p' F' hs hp' hl' => ?_))
      · have hp2 := hps.2 p' s hs
        have hsk := tpSkip_le (b := b) hp2.2.1
        rw [hs, pB_r] at hA hB hF
        have e11 : hI (HP (rpS (upC hi 69 (put3 F (64 + i) s)) p' (-1) dp) hl f dr t) 58 11 = -1 := rfl
        have e10 : hI (HP (rpS (upC hi 69 (put3 F (64 + i) s)) (tpSkip b L p') (-1) dp) hl f dr t) 58 10 = nI (tpSkip b L p') := rfl
        refine wq_aload_n q205_31 rfl ?_
        refine wq_getI q205_32 rfl rfl ?_
        refine wq_iconst q205_35 ?_
        refine wq_icmp_eq q205_36 (fun c36 => ?_) (fun c36 => ?_)
        · refine wq_iinc (ls' := [_, _, _]) q205_40 rfl rfl ?_
          rw [nI_1]
          refine wq_aload_n q205_43 rfl ?_
          refine cV (As := []) q205_44 m_177 rfl rfl rfl ⟨by decide, rfl⟩ rfl (c_rlook (hTA _) hp2.2.1 ?_)
          refine wq_bipush q205_47 ?_
          refine wq_icmp_ne q205_49 (fun c49 => ?_) (fun c49 => ?_)
          · rw [if_neg (fun z => c49 z.2)] at hA
            refine wq_iconst q205_56 ?_
            refine wq_istore_n (ls' := [_, _, _]) q205_57 rfl ?_
            refine wq_iload_n q205_58 rfl ?_
            refine wq_if_eq q205_59 (fun c59 => ?_) (fun c59 => ?_)
            · refine wq_iload_n q205_74 rfl ?_
              refine wq_if_eq q205_75 (fun c75 => ?_) (fun c75 => ?_)
              · refine wq_iload_n q205_17 rfl ?_
                refine wq_if_eq q205_18 (fun c18 => ?_) (fun c18 => ?_)
                · exact hA _ _ _ _ _ rfl hsk.2 (tpSkip_id hp2.2.1) (by omega) (pf s).1 (pf s).2
                · exact absurd rfl c18
              · exact absurd rfl c75
            · exact absurd rfl c59
          · refine wq_iconst q205_52 ?_
            refine wq_goto q205_53 ?_
            refine wq_istore_n (ls' := [_, _, _]) q205_57 rfl ?_
            refine wq_iload_n q205_58 rfl ?_
            refine wq_if_eq q205_59 (fun c59 => ?_) (fun c59 => ?_)
            · exact absurd c59 (by decide)
            · refine wq_iload_n q205_62 rfl ?_
              refine wq_bipush q205_63 ?_
              refine wq_icmp_ne q205_65 (fun c65 => ?_) (fun c65 => ?_)
              · rw [show (16 : Int32) = nI 16 from rfl, nI_eq (by omega) (by omega)] at c65
                rw [if_pos ⟨by omega, c49⟩] at hA hB hF
                have hlt : tpSkip b L p' < L := tat_lt c49 (by decide)
                refine wq_iload_n q205_74 rfl ?_
                refine wq_if_eq q205_75 (fun c75 => ?_) (fun c75 => ?_)
                · exact absurd c75 (by decide)
                · refine wq_aload_n q205_78 rfl ?_
                  refine wq_dup q205_79 rfl ?_
                  refine wq_getI q205_80 rfl rfl ?_
                  refine wq_iconst q205_83 ?_
                  refine wq_iadd q205_84 ?_
                  refine wq_putI q205_85 rfl rfl rfl rfl ?_
                  refine wq_goto q205_88 ?_
                  rw [e10, nI_1, hpS, rpS_p]
                  exact ih (i + 1) _ _ _ (by omega) (by omega) (by omega) (pf s).1 (pf s).2 hA hB hF
              · rw [show (16 : Int32) = nI 16 from rfl, nI_eq (by omega) (by omega)] at c65
                rw [if_neg (fun z => z.1 (by omega))] at hB
                refine wq_aload_n q205_68 rfl ?_
                refine cV (As := []) q205_69 m_178 rfl rfl rfl ⟨by decide, rfl⟩ rfl (c_rfails ?_)
                refine wq_pop q205_72 rfl ?_
                refine rV q205_73 ?_
                rw [tpF_1]
                exact hB _ _ _ _ rfl (tpSkip_id hp2.2.1) c49 (pf s).2
        · exact absurd e11 c36
      · have hq := hps.1 q hs
        rw [hs] at hF
        refine wq_aload_n q205_31 rfl ?_
        refine wq_getI q205_32 rfl rfl ?_
        refine wq_iconst q205_35 ?_
        refine wq_icmp_eq q205_36 (fun c36 => ?_) (fun c36 => ?_)
        · exact absurd c36 (nI_nm1 (by omega))
        · refine rV q205_39 ?_
          exact hF q p' F' rfl (fun j hj => (hl' j hj).trans (hlo j hj))
/-- a plan is read -/
theorem c_readPlan (hR : RTp hi L b)
    (hQ : ∀ p n P hi', pPlanT b L = .inr (p, (n, P)) → hi' 58 11 = -1 → hi' 70 4 = nI n → (∀ j, j < n * 3 → hi' 69 (192 + j) = P j) → RS hi hi' → Q none (HP hi' hl f dr 59))
    (hF : ∀ q hi', pPlanT b L = .inl q → hi' 58 11 = nI q → RS hi hi' → Q none (HP hi' hl f dr 59)) :
    Ct G (0, 0) (d + 6) 205 [.ref 58] (HP hi hl f dr t) Q := by
  obtain ⟨h6, hLm, hb, hby⟩ := hR
  have e6 : hI (HP hi hl f dr t) 58 6 = nI L := h6
  generalize hg : up2 (up2 hi 58 8 (nI 0)) 58 9 (nI L) = h1
  have hrs : RS hi h1 := by
    subst hg
    exact (RS.upK (by decide) _).tr (RS.upK (by decide) _)
  have hT : RT h1 59 0 L 240 b := by
    subst hg
    exact ⟨Or.inl ⟨rfl, rfl⟩, hLm, by omega, hb, rfl, rfl, fun j hj => by rw [Nat.zero_add]; exact hby j hj⟩
  have h69 : h1 69 = hi 69 := by subst hg; rfl
  have h70 : h1 70 = hi 70 := by subst hg; rfl
  have rs69 : ∀ (F' : Nat → Int32) (p : Nat) (fl dp : Int32), (∀ j, j < 192 → F' j = h1 69 j) → RS hi (rpS (upC h1 69 F') p fl dp) := fun F' p fl dp hj => by
    refine hrs.tr (RS.tr (hi1 := upC h1 69 F') ⟨fun a ha => upC_o _ _ (fun z => ha (by rw [z]; decide)), fun k hk => rfl, hj, fun j _ => rfl⟩ (RS.rp _ _ _))
  have hchain : stsS hi 0 L = rpS (upC h1 69 (h1 69)) 0 (-1) (h1 58 12) := by
    rw [upC_self _ _ rfl]
    subst hg
    funext a k
    by_cases ha : a = 58
    · subst ha
      by_cases h8 : k = 8
      · subst h8; rfl
      by_cases h9 : k = 9
      · subst h9; rfl
      by_cases h10 : k = 10
      · subst h10; rfl
      by_cases h11 : k = 11
      · subst h11; rfl
      by_cases h12 : k = 12
      · subst h12; rfl
      simp [stsS, rpS, up2, va_up, h8, h9, h10, h11, h12]
    · simp [stsS, rpS, up2, ha]
  refine Ct_of (ls := [_, _, _]) m_205.1.2.2.1 (Nat.le_of_ble_eq_true rfl) rfl ?_
  refine wq_aload_n q205_0 rfl ?_
  refine wq_aload_n q205_1 rfl ?_
  refine wq_getR q205_2 rfl rfl rfl ?_
  refine wq_iconst q205_5 ?_
  refine wq_aload_n q205_6 rfl ?_
  refine wq_getI q205_7 rfl rfl ?_
  rw [e6]
  refine cV (As := [_, _, _]) q205_10 m_192 rfl rfl rfl ⟨by decide, rfl⟩ rfl (c_starts (bg := 0) ?_)
  refine wq_iconst q205_13 ?_
  refine wq_istore_n (ls' := [_, _, _]) q205_14 rfl ?_
  refine wq_iconst q205_15 ?_
  refine wq_istore_n (ls' := [_, _, _]) q205_16 rfl ?_
  rw [hchain]
  refine c_rplan_loop hT 16 0 0 (fun _ => 0) _ (by omega) (by omega) (by omega) (fun j hj => by omega) (fun _ _ => rfl) (fun q n P' F' x2 hps hq hid hn16 hF1 hF2 => ?_) (fun q n P' F' hps hid h59 hF2 => ?_) (fun q p' F' hps hF2 => ?_)
  · have hE : pPlanT b L = (if tat b L q = -1 then pok q (n, P') else pno q) := by
      unfold pPlanT
      rw [hps]
      show (if tat b L (tpSkip b L q) = -1 then pok (tpSkip b L q) (n, P') else pno (tpSkip b L q)) = _
      rw [hid]
    have e10 : ∀ F, up2 (rpS (upC h1 69 F') q (-1) (h1 58 12)) 70 4 F = rpS (up2 (upC h1 69 F') 70 4 F) q (-1) (h1 58 12) := fun F => by
      funext a k
      by_cases ha : a = 58
      · subst ha; rfl
      · simp [rpS, up2, ha]
    have hT2 : RT (up2 (upC h1 69 F') 70 4 (nI n)) 59 0 L 240 b := (hT.upA (a := 69) (by decide) F').moved rfl rfl rfl
    have hrs2 : ∀ p fl dp, RS hi (rpS (up2 (upC h1 69 F') 70 4 (nI n)) p fl dp) := fun p fl dp => by
      refine hrs.tr (RS.tr (hi1 := up2 (upC h1 69 F') 70 4 (nI n)) ⟨fun a ha => ?_, fun k hk => rfl, hF2, fun j hj => ?_⟩ (RS.rp _ _ _))
      · rw [up2_o _ _ _ (fun z => ha (by rw [z]; decide)), upC_o _ _ (fun z => ha (by rw [z]; decide))]
      · show va_up _ 4 _ j = _
        rw [vu_o _ _ (by omega)]
        rfl
    refine wq_aload_n q205_91 rfl ?_
    refine wq_getR q205_92 rfl rfl rfl ?_
    refine wq_iconst q205_95 ?_
    refine wq_iload_n q205_96 rfl ?_
    refine sI q205_97 rfl (rfl) (by decide) (by first | decide | omega) rfl ?_
    rw [hpS, e10]
    refine wq_aload_n q205_98 rfl ?_
    refine cV (As := []) q205_99 m_177 rfl rfl rfl ⟨by decide, rfl⟩ rfl (c_rlook hT2 hq ?_)
    refine wq_iconst q205_102 ?_
    refine wq_icmp_eq q205_103 (fun c103 => ?_) (fun c103 => ?_)
    · rw [hid] at c103 ⊢
      rw [if_pos c103] at hE
      refine rV q205_111 ?_
      exact hQ q n P' _ hE rfl rfl hF1 (hrs2 _ _ _)
    · rw [hid] at c103 ⊢
      rw [if_neg c103] at hE
      refine wq_aload_n q205_106 rfl ?_
      refine cV (As := []) q205_107 m_178 rfl rfl rfl ⟨by decide, rfl⟩ rfl (c_rfails ?_)
      refine wq_pop q205_110 rfl ?_
      refine rV q205_111 ?_
      rw [tpF_1]
      exact hF q _ hE rfl (hrs2 _ _ _)
  · have hE : pPlanT b L = pno q := by
      unfold pPlanT
      rw [hps]
      show (if tat b L (tpSkip b L q) = -1 then pok (tpSkip b L q) (n, P') else pno (tpSkip b L q)) = _
      rw [hid, if_neg (by rw [h59]; decide)]
    exact hF q _ hE rfl (rs69 _ _ _ _ hF2)
  · have hE : pPlanT b L = pno q := by
      unfold pPlanT
      rw [hps]
      rfl
    exact hF q _ hE rfl (rs69 _ _ _ _ hF2)
/-! faults -/
theorem gt_RS {hi hi' : Nat → Nat → Int32} (h1 : ∀ a, a ≠ 58 → hi' a = hi a) (h2 : ∀ k, k ∉ gtF → hi' 58 k = hi 58 k) : RS hi hi' := by
  have hm : ∀ k, k ∈ gtF → k ∈ rsK := by decide
  refine ⟨fun a ha => h1 a (fun z => ha (by rw [z]; decide)), fun k hk => h2 k (fun z => hk (hm k z)), fun j _ => by rw [h1 69 (by decide)], fun j _ => by rw [h1 70 (by decide)]⟩
theorem c_rfault_no {x : Int32} (hx : inB x 3 = false) (hQ : Q (some (.int (-2))) (HP (up2 hi 58 0 0) hl f dr t)) : Ct G (0, 0) (d + 32) 206 [.ref 58, .int x] (HP hi hl f dr t) Q := by
  refine Ct_of (ls := [_, _]) m_206.1.2.2.1 (Nat.le_of_ble_eq_true rfl) rfl ?_
  refine wq_aload_n q206_0 rfl ?_
  refine wq_iconst q206_1 ?_
  refine wq_putI q206_2 rfl rfl rfl rfl ?_
  refine wq_iload_n q206_5 rfl ?_
  refine wq_i2l q206_6 ?_
  refine wq_lconst q206_7 ?_
  refine wq_ldc2_w q206_8 ?_
  refine cS' (As := [_, _, _]) q206_11 m_170 rfl rfl rfl (c_isIn ?_)
  refine wq_if_ne q206_14 (fun c14 => ?_) (fun c14 => ?_)
  · have c := i10 c14
    rw [iiB_3, hx] at c
    cases c
  · refine wq_bipush q206_17 ?_
    refine rI q206_19 rfl ?_
    exact hQ
theorem c_rfault0 (hR : RTp hi L b)
    (hQ : ∀ p S hi', pFortT b L = .inr (p, S) → CF hi' S → RS hi hi' → Q (some (.int (-1))) (HP hi' hl f dr 59))
    (hF : ∀ q hi', pFortT b L = .inl q → RS hi hi' → Q (some (.int (nI q))) (HP hi' hl f dr 59)) :
    Ct G (0, 0) (d + 32) 206 [.ref 58, .int 0] (HP hi hl f dr t) Q := by
  have hr : RS hi (up2 hi 58 0 0) := RS.upK (by decide) _
  have hR2 : RTp (up2 hi 58 0 0) L b := hR.moved rfl rfl
  have rest : ∀ hi' x, hi' 58 11 = x → Q (some (.int x)) (HP hi' hl f dr 59) → wq G (0, 0) (d + 32) 206 28 [some (.ref 58), some (.int 0)] [] (0, 0) (HP hi' hl f dr 59) Q := by
    intro hi' x hx hQ
    have ex : hI (HP hi' hl f dr 59) 58 11 = x := hx
    refine wq_iload_n q206_28 rfl ?_
    refine wq_iconst q206_29 ?_
    refine wq_icmp_ne q206_30 (fun c30 => ?_) (fun c30 => ?_)
    · refine wq_iload_n q206_46 rfl ?_
      refine wq_iconst q206_47 ?_
      refine wq_icmp_ne q206_48 (fun c48 => ?_) (fun c48 => ?_)
      · refine wq_aload_n q206_55 rfl ?_
        refine wq_getI q206_56 rfl rfl ?_
        rw [ex]
        refine rI q206_59 rfl ?_
        exact hQ
      · exact absurd c48 (by decide)
    · exact absurd c30 (by decide)
  refine Ct_of (ls := [_, _]) m_206.1.2.2.1 (Nat.le_of_ble_eq_true rfl) rfl ?_
  refine wq_aload_n q206_0 rfl ?_
  refine wq_iconst q206_1 ?_
  refine wq_putI q206_2 rfl rfl rfl rfl ?_
  refine wq_iload_n q206_5 rfl ?_
  refine wq_i2l q206_6 ?_
  refine wq_lconst q206_7 ?_
  refine wq_ldc2_w q206_8 ?_
  refine cS' (As := [_, _, _]) q206_11 m_170 rfl rfl rfl (c_isIn ?_)
  refine wq_if_ne q206_14 (fun c14 => ?_) (fun c14 => ?_)
  · rw [hpS]
    refine wq_iload_n q206_20 rfl ?_
    refine wq_if_ne q206_21 (fun c21 => ?_) (fun c21 => ?_)
    · exact absurd rfl c21
    · refine wq_aload_n q206_24 rfl ?_
      refine cV (As := []) q206_25 m_202 rfl rfl rfl ⟨by decide, rfl⟩ rfl (c_readFort (d := d + 23) hR2.1 hR2.2.1 hR2.2.2.1 hR2.2.2.2 (fun p S hi' e1 e2 e3 e4 => ?_) (fun q hi' e1 e2 e4 => ?_))
      · exact rest hi' (-1) e2 (hQ p S hi' e1 e3 (hr.tr e4))
      · exact rest hi' _ e2 (hF q hi' e1 (hr.tr e4))
  · exact absurd c14 (by decide)
theorem c_rfault1 (hR : RTp hi L b)
    (hQ : ∀ p l hi', pLawT b L = .inr (p, l) → RS hi hi' → Q (some (.int (-1))) (HP hi' hl f dr 59))
    (hF : ∀ q hi', pLawT b L = .inl q → RS hi hi' → Q (some (.int (nI q))) (HP hi' hl f dr 59)) :
    Ct G (0, 0) (d + 32) 206 [.ref 58, .int 1] (HP hi hl f dr t) Q := by
  have hr : RS hi (up2 hi 58 0 0) := RS.upK (by decide) _
  have hR2 : RTp (up2 hi 58 0 0) L b := hR.moved rfl rfl
  have rest : ∀ hi' x, hi' 58 11 = x → Q (some (.int x)) (HP hi' hl f dr 59) → wq G (0, 0) (d + 32) 206 46 [some (.ref 58), some (.int 1)] [] (0, 0) (HP hi' hl f dr 59) Q := by
    intro hi' x hx hQ
    have ex : hI (HP hi' hl f dr 59) 58 11 = x := hx
    refine wq_iload_n q206_46 rfl ?_
    refine wq_iconst q206_47 ?_
    refine wq_icmp_ne q206_48 (fun c48 => ?_) (fun c48 => ?_)
    · refine wq_aload_n q206_55 rfl ?_
      refine wq_getI q206_56 rfl rfl ?_
      rw [ex]
      refine rI q206_59 rfl ?_
      exact hQ
    · exact absurd c48 (by decide)
  have e6 : hI (HP (up2 hi 58 0 0) hl f dr t) 58 6 = nI L := hR2.1
  refine Ct_of (ls := [_, _]) m_206.1.2.2.1 (Nat.le_of_ble_eq_true rfl) rfl ?_
  refine wq_aload_n q206_0 rfl ?_
  refine wq_iconst q206_1 ?_
  refine wq_putI q206_2 rfl rfl rfl rfl ?_
  refine wq_iload_n q206_5 rfl ?_
  refine wq_i2l q206_6 ?_
  refine wq_lconst q206_7 ?_
  refine wq_ldc2_w q206_8 ?_
  refine cS' (As := [_, _, _]) q206_11 m_170 rfl rfl rfl (c_isIn ?_)
  refine wq_if_ne q206_14 (fun c14 => ?_) (fun c14 => ?_)
  · rw [hpS]
    refine wq_iload_n q206_20 rfl ?_
    refine wq_if_ne q206_21 (fun c21 => ?_) (fun c21 => ?_)
    · refine wq_iload_n q206_28 rfl ?_
      refine wq_iconst q206_29 ?_
      refine wq_icmp_ne q206_30 (fun c30 => ?_) (fun c30 => ?_)
      · exact absurd rfl c30
      · refine wq_aload_n q206_33 rfl ?_
        refine wq_aload_n q206_34 rfl ?_
        refine wq_getR q206_35 rfl rfl rfl ?_
        refine wq_iconst q206_38 ?_
        refine wq_aload_n q206_39 rfl ?_
        refine wq_getI q206_40 rfl rfl ?_
        rw [e6]
        refine cV (As := [_, _, _]) q206_43 m_193 rfl rfl rfl ⟨by decide, rfl⟩ rfl (c_goThrough (bg := 0) (N := 240) (lt := fun k => hi 62 (cB 3 k).toNatClampNeg) (Or.inl ⟨rfl, rfl⟩) hR.2.1 (by have := hR.2.1; omega) hR.2.2.1 (fun j hj => by rw [Nat.zero_add]; exact hR2.2.2.2 j hj) (fun k hk => rfl) (fun hi' g1 g2 g3 g4 => ?_))
        cases hp : pLawT b L with
        | inl q => exact rest hi' _ (g3 q hp) (hF q hi' hp (hr.tr (gt_RS g1 g2)))
        | inr r => exact rest hi' _ (g4 r.1 r.2 hp).1 (hQ r.1 r.2 hi' hp (hr.tr (gt_RS g1 g2)))
    · exact absurd c21 (by decide)
  · exact absurd c14 (by decide)
theorem c_rfault2 (hR : RTp hi L b)
    (hQ : ∀ p n P hi', pPlanT b L = .inr (p, (n, P)) → hi' 70 4 = nI n → (∀ j, j < n * 3 → hi' 69 (192 + j) = P j) → RS hi hi' → Q (some (.int (-1))) (HP hi' hl f dr 59))
    (hF : ∀ q hi', pPlanT b L = .inl q → RS hi hi' → Q (some (.int (nI q))) (HP hi' hl f dr 59)) :
    Ct G (0, 0) (d + 32) 206 [.ref 58, .int 2] (HP hi hl f dr t) Q := by
  have hr : RS hi (up2 hi 58 0 0) := RS.upK (by decide) _
  have hR2 : RTp (up2 hi 58 0 0) L b := hR.moved rfl rfl
  have rest : ∀ hi' x, hi' 58 11 = x → Q (some (.int x)) (HP hi' hl f dr 59) → wq G (0, 0) (d + 32) 206 55 [some (.ref 58), some (.int 2)] [] (0, 0) (HP hi' hl f dr 59) Q := by
    intro hi' x hx hQ
    have ex : hI (HP hi' hl f dr 59) 58 11 = x := hx
    refine wq_aload_n q206_55 rfl ?_
    refine wq_getI q206_56 rfl rfl ?_
    rw [ex]
    refine rI q206_59 rfl ?_
    exact hQ
  refine Ct_of (ls := [_, _]) m_206.1.2.2.1 (Nat.le_of_ble_eq_true rfl) rfl ?_
  refine wq_aload_n q206_0 rfl ?_
  refine wq_iconst q206_1 ?_
  refine wq_putI q206_2 rfl rfl rfl rfl ?_
  refine wq_iload_n q206_5 rfl ?_
  refine wq_i2l q206_6 ?_
  refine wq_lconst q206_7 ?_
  refine wq_ldc2_w q206_8 ?_
  refine cS' (As := [_, _, _]) q206_11 m_170 rfl rfl rfl (c_isIn ?_)
  refine wq_if_ne q206_14 (fun c14 => ?_) (fun c14 => ?_)
  · rw [hpS]
    refine wq_iload_n q206_20 rfl ?_
    refine wq_if_ne q206_21 (fun c21 => ?_) (fun c21 => ?_)
    · refine wq_iload_n q206_28 rfl ?_
      refine wq_iconst q206_29 ?_
      refine wq_icmp_ne q206_30 (fun c30 => ?_) (fun c30 => ?_)
      · refine wq_iload_n q206_46 rfl ?_
        refine wq_iconst q206_47 ?_
        refine wq_icmp_ne q206_48 (fun c48 => ?_) (fun c48 => ?_)
        · exact absurd rfl c48
        · refine wq_aload_n q206_51 rfl ?_
          refine cV (As := []) q206_52 m_205 rfl rfl rfl ⟨by decide, rfl⟩ rfl (c_readPlan (d := d + 25) hR2 (fun p n P hi' e1 e2 e3 e4 e5 => ?_) (fun q hi' e1 e2 e4 => ?_))
          · exact rest hi' _ e2 (hQ p n P hi' e1 e3 e4 (hr.tr e5))
          · exact rest hi' _ e2 (hF q hi' e1 (hr.tr e4))
      · exact absurd c30 (by decide)
    · exact absurd c21 (by decide)
  · exact absurd c14 (by decide)
end REFPLAN
