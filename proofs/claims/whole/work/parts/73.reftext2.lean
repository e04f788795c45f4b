/-! THE REFERENCE: texts of laws and plans -/
/-- a law's text is taken -/
def LwQ (lc L : Nat) (hi hi' : Nat → Nat → Int32) : Prop := hi' 58 6 = 0 ∧ hi' 58 7 = nI (lc + 1) ∧ (∀ j, j < L → hi' 60 (240 * lc + j) = hi 59 j) ∧ (∀ j, j < 240 * lc → hi' 60 j = hi 60 j) ∧ hi' 61 lc = nI L ∧ (∀ j, j ≠ lc → hi' 61 j = hi 61 j) ∧
  (∀ a, a ∉ rsC → a ≠ 60 → a ≠ 61 → hi' a = hi a) ∧ (∀ k, k ∉ rsK → k ≠ 6 → k ≠ 7 → hi' 58 k = hi 58 k) ∧ (∀ j, j < 192 → hi' 69 j = hi 69 j) ∧ (∀ j, j < 4 → hi' 70 j = hi 70 j)
/-- a plan's text is taken -/
def PlQ (k0 n : Nat) (P : Nat → Int32) (hi hi' : Nat → Nat → Int32) : Prop := hi' 58 6 = 0 ∧ hi' 58 30 = nI (k0 + 1) ∧ (∀ j, j < n * 3 → hi' 69 (48 * k0 + j) = P j) ∧ (∀ j, j < 48 * k0 → hi' 69 j = hi 69 j) ∧ hi' 70 k0 = nI n ∧ (∀ j, j < 4 → j ≠ k0 → hi' 70 j = hi 70 j) ∧
  (∀ a, a ∉ rsC → hi' a = hi a) ∧ (∀ k, k ∉ rsK → k ≠ 6 → k ≠ 30 → hi' 58 k = hi 58 k)
theorem vp_nar8' {x y : Int32} (h : x = y.toInt8.toInt32) : vp_nar .byte x = x := by rw [h]; exact vp_nar8 y
theorem pLawT_q {b : Nat → Int32} {L : Nat} : ∀ q, pLawT b L = .inl q → q ≤ L := by
  intro q h
  unfold pLawT pFin at h
  have h0 := pLaw_ok (b := b) (L := L) 240 0 (by omega)
  cases hps : pLaw b L 240 0 with
  | inl q1 =>
    rw [hps] at h
    cases h
    exact h0.1 _ hps
  | inr z =>
    obtain ⟨p1, l1⟩ := z
    rw [hps, pB_r] at h
    have hp1 := (h0.2 p1 l1 hps).1
    split at h
    · cases h
    · cases h
      exact (tpSkip_le hp1).2
section REFTEXT2
variable {G : ph_G} {d f dr t L n : Nat} {hi hi' : Nat → Nat → Int32} {hl : Nat → Nat → Int64} {Q : Option Value → ph_H → Prop} {b : Nat → Int32}
theorem c_rt_l6 {x1 : Int32} {lc : Nat} (hlc : lc < 4) (hLm : L ≤ 240) (h7 : hi 58 7 = nI lc) (hby : ∀ j, j < L → hi 59 j = (b j).toInt8.toInt32)
    (K : ∀ Z x3, (∀ j, j < L → Z (240 * lc + j) = hi 59 j) → (∀ j, j < 240 * lc → Z j = hi 60 j) → wq G (0, 0) (d + 1) 207 103 [some (.ref 58), some (.int x1), some (.int (nI L)), x3] [] (0, 0) (HP (upC hi 60 Z) hl f dr t) Q) : ∀ (m k : Nat) (Z : Nat → Int32), k + m = L → (∀ j, j < k → Z (240 * lc + j) = hi 59 j) → (∀ j, j < 240 * lc → Z j = hi 60 j) →
    wq G (0, 0) (d + 1) 207 71 [some (.ref 58), some (.int x1), some (.int (nI L)), some (.int (nI k))] [] (0, 0) (HP (upC hi 60 Z) hl f dr t) Q := by
  have e7 : ∀ Z, hI (HP (upC hi 60 Z) hl f dr t) 58 7 = nI lc := fun _ => h7
  intro m
  induction m with
  | zero =>
    intro k Z hm hZ hZ2
    obtain rfl : k = L := by omega
    refine wq_iload_n q207_71 rfl ?_
    refine wq_iload_n q207_72 rfl ?_
    refine wq_icmp_ge q207_73 (fun c73 => ?_) (fun c73 => ?_)
    · exact K Z _ hZ hZ2
    · exact absurd (nI_le (Nat.le_refl _) (by omega)) c73
  | succ m ih =>
    intro k Z hm hZ hZ2
    refine wq_iload_n q207_71 rfl ?_
    refine wq_iload_n q207_72 rfl ?_
    refine wq_icmp_ge q207_73 (fun c73 => ?_) (fun c73 => ?_)
    · rw [nI_leI (by omega) (by omega)] at c73
      omega
    · have e59 : hI (HP (upC hi 60 Z) hl f dr t) 59 k = hi 59 k := rfl
      refine wq_aload_n q207_76 rfl ?_
      refine wq_getR q207_77 rfl rfl rfl ?_
      refine wq_sipush q207_80 ?_
      refine wq_aload_n q207_83 rfl ?_
      refine wq_getI q207_84 rfl rfl ?_
      refine wq_imul q207_87 ?_
      refine wq_iload_n q207_88 rfl ?_
      refine wq_iadd q207_89 ?_
      refine wq_aload_n q207_90 rfl ?_
      refine wq_getR q207_91 rfl rfl rfl ?_
      refine wq_iload_n q207_94 rfl ?_
      rw [e7]
      refine aB q207_95 rfl (rfl) (by show k < 240; omega) (by first | decide | omega) ?_
      refine sB q207_96 rfl ((by rw [show (240 : Int32) = nI 240 from rfl, pk_mul, nI_add])) (by show 240 * lc + k < 960; omega) (by first | decide | omega) rfl ?_
      refine wq_iinc (ls' := [_, _, _, _]) q207_97 rfl rfl ?_
      refine wq_goto q207_100 ?_
      rw [e59, vp_nar8' (hby k (by omega)), hpS, up2_C, upC_s, upC_C, nI_1]
      refine ih (k + 1) _ (by omega) (fun j hj => ?_) (fun j hj => ?_)
      · by_cases h : j = k
        · rw [h, vu_s]
        · rw [vu_o _ _ (by omega)]
          exact hZ j (by omega)
      · rw [vu_o _ _ (by omega)]
        exact hZ2 j hj
theorem c_rt_l7 {x1 x2 : Int32} {k0 : Nat} (hk : k0 < 4) (h30 : hi 58 30 = nI k0)
    (K : ∀ Z x3, (∀ j, j < 48 → Z (48 * k0 + j) = hi 69 (192 + j)) → (∀ j, j < 48 * k0 → Z j = hi 69 j) → wq G (0, 0) (d + 1) 207 173 [some (.ref 58), some (.int x1), some (.int x2), x3] [] (0, 0) (HP (upC hi 69 Z) hl f dr t) Q) : ∀ (m k : Nat) (Z : Nat → Int32), k + m = 48 → (∀ j, j < k → Z (48 * k0 + j) = hi 69 (192 + j)) → (∀ j, j < 48 * k0 → Z j = hi 69 j) → (∀ j, 192 ≤ j → Z j = hi 69 j) →
    wq G (0, 0) (d + 1) 207 137 [some (.ref 58), some (.int x1), some (.int x2), some (.int (nI k))] [] (0, 0) (HP (upC hi 69 Z) hl f dr t) Q := by
  have e30 : ∀ Z, hI (HP (upC hi 69 Z) hl f dr t) 58 30 = nI k0 := fun _ => h30
  intro m
  induction m with
  | zero =>
    intro k Z hm hZ hZ2 hZ3
    obtain rfl : k = 48 := by omega
    refine wq_iload_n q207_137 rfl ?_
    refine wq_bipush q207_138 ?_
    refine wq_icmp_ge q207_140 (fun c140 => ?_) (fun c140 => ?_)
    · exact K Z _ hZ hZ2
    · exact absurd (by decide) c140
  | succ m ih =>
    intro k Z hm hZ hZ2 hZ3
    refine wq_iload_n q207_137 rfl ?_
    refine wq_bipush q207_138 ?_
    refine wq_icmp_ge q207_140 (fun c140 => ?_) (fun c140 => ?_)
    · rw [show (48 : Int32) = nI 48 from rfl, nI_leI (by omega) (by omega)] at c140
      omega
    · refine wq_aload_n q207_143 rfl ?_
      refine wq_getR q207_144 rfl rfl rfl ?_
      refine wq_bipush q207_147 ?_
      refine wq_aload_n q207_149 rfl ?_
      refine wq_getI q207_150 rfl rfl ?_
      refine wq_imul q207_153 ?_
      refine wq_iload_n q207_154 rfl ?_
      refine wq_iadd q207_155 ?_
      refine wq_aload_n q207_156 rfl ?_
      refine wq_getR q207_157 rfl rfl rfl ?_
      rw [e30]
      refine wq_sipush q207_160 ?_
      refine wq_iload_n q207_163 rfl ?_
      refine wq_iadd q207_164 ?_
      refine aI q207_165 rfl ((by rw [show (192 : Int32) = nI 192 from rfl, nI_add])) (by show 192 + k < 240; omega) (by first | decide | omega) ?_
      refine sI q207_166 rfl ((by rw [show (48 : Int32) = nI 48 from rfl, pk_mul, nI_add])) (by show 48 * k0 + k < 240; omega) (by first | decide | omega) rfl ?_
      refine wq_iinc (ls' := [_, _, _, _]) q207_167 rfl rfl ?_
      refine wq_goto q207_170 ?_
      rw [hpS, up2_C, upC_s, upC_C, nI_1]
      refine ih (k + 1) _ (by omega) (fun j hj => ?_) (fun j hj => ?_) (fun j hj => ?_)
      · by_cases h : j = k
        · rw [h, vu_s]
          exact hZ3 _ (by omega)
        · rw [vu_o _ _ (by omega)]
          exact hZ j (by omega)
      · rw [vu_o _ _ (by omega)]
        exact hZ2 j hj
      · rw [vu_o _ _ (by omega)]
        exact hZ3 j hj
theorem c_rtext1 {lc : Nat} (hR : RTp hi L b) (h7 : hi 58 7 = nI lc) (hlc : lc ≤ 4)
    (h1 : ∀ p l hi', lc < 4 → pLawT b L = .inr (p, l) → LwQ lc L hi hi' → Q (some (.int (nI lc))) (HP hi' hl f dr 59))
    (h2 : lc = 4 → Q (some (.int (-1))) (HP (up2 hi 58 0 0) hl f dr t))
    (h0 : ∀ q hi', pLawT b L = .inl q → RS hi hi' → Q (some (.int (-1))) (HP hi' hl f dr 59)) :
    Ct G (0, 0) (d + 33) 207 [.ref 58, .int 1] (HP hi hl f dr t) Q := by
  have hr : RS hi (up2 hi 58 0 0) := RS.upK (by decide) _
  have hR2 : RTp (up2 hi 58 0 0) L b := hR.moved rfl rfl
  have hLm := hR.2.1
  have e7 : hI (HP (up2 hi 58 0 0) hl f dr t) 58 7 = nI lc := h7
  refine Ct_of (ls := [_, _, _, _]) m_207.1.2.2.1 (Nat.le_of_ble_eq_true rfl) rfl ?_
  refine wq_aload_n q207_0 rfl ?_
  refine wq_iconst q207_1 ?_
  refine wq_putI q207_2 rfl rfl rfl rfl ?_
  refine wq_iload_n q207_5 rfl ?_
  refine wq_i2l q207_6 ?_
  refine wq_lconst q207_7 ?_
  refine wq_ldc2_w q207_8 ?_
  refine cS' (As := [_, _, _]) q207_11 m_170 rfl rfl rfl (c_isIn ?_)
  refine wq_if_eq q207_14 (fun c14 => ?_) (fun c14 => ?_)
  · exact absurd c14 (by decide)
  · rw [hpS]
    refine wq_iload_n q207_17 rfl ?_
    refine wq_iconst q207_18 ?_
    refine wq_icmp_ne q207_19 (fun c19 => ?_) (fun c19 => ?_)
    · exact absurd rfl c19
    · refine wq_aload_n q207_22 rfl ?_
      refine wq_getI q207_23 rfl rfl ?_
      refine wq_iconst q207_26 ?_
      refine wq_icmp_eq q207_27 (fun c27 => ?_) (fun c27 => ?_)
      · rw [e7, show (4 : Int32) = nI 4 from rfl, nI_eq (by omega) (by omega)] at c27
        refine wq_iconst q207_52 ?_
        refine rI q207_53 rfl ?_
        exact h2 c27
      · rw [e7, show (4 : Int32) = nI 4 from rfl, nI_eq (by omega) (by omega)] at c27
        have hlc4 : lc < 4 := by omega
        refine wq_iload_n q207_30 rfl ?_
        refine wq_iconst q207_31 ?_
        refine wq_icmp_ne q207_32 (fun c32 => ?_) (fun c32 => ?_)
        · refine wq_aload_n q207_43 rfl ?_
          refine wq_iload_n q207_44 rfl ?_
          refine cV (As := [_]) q207_45 m_206 rfl rfl rfl ⟨by decide, rfl⟩ rfl (c_rfault1 (d := d) hR2 (fun p l hi' e1 e3 => ?_) (fun q hi' e1 e3 => ?_))
          · have hrs := hr.tr e3
            have k7 : hi' 58 7 = nI lc := (hrs.2.1 7 (by decide)).trans h7
            have k6 : hI (HP hi' hl f dr 59) 58 6 = nI L := (hrs.2.1 6 (by decide)).trans hR.1
            have k59 : hi' 59 = hi 59 := hrs.1 59 (by decide)
            have k60 : hi' 60 = hi 60 := hrs.1 60 (by decide)
            have k61 : hi' 61 = hi 61 := hrs.1 61 (by decide)
            refine wq_iconst q207_48 ?_
            refine wq_icmp_eq q207_49 (fun c49 => ?_) (fun c49 => ?_)
            · refine wq_aload_n q207_54 rfl ?_
              refine wq_getI q207_55 rfl rfl ?_
              refine wq_istore_n (ls' := [_, _, _, _]) q207_58 rfl ?_
              refine wq_aload_n q207_59 rfl ?_
              refine wq_iconst q207_60 ?_
              refine wq_putI q207_61 rfl rfl rfl rfl ?_
              rw [hpS, k6]
              refine wq_iload_n q207_64 rfl ?_
              refine wq_iconst q207_65 ?_
              refine wq_icmp_ne q207_66 (fun c66 => ?_) (fun c66 => ?_)
              · exact absurd rfl c66
              · refine wq_iconst q207_69 ?_
                refine wq_istore_n (ls' := [_, _, _, _]) q207_70 rfl ?_
                rw [← upC_self (up2 hi' 58 6 0) 60 rfl]
                refine c_rt_l6 (hi := up2 hi' 58 6 0) (b := b) hlc4 hLm k7 (fun j hj => ?_) (fun Z _ z1 z2 => ?_) L 0 _ (by omega) (fun j hj => by omega) (fun j hj => rfl)
                · show hi' 59 j = _
                  rw [k59]
                  exact hR.2.2.2 j hj
                · have e7' : hI (HP (upC (up2 hi' 58 6 0) 60 Z) hl f dr 59) 58 7 = nI lc := k7
                  refine wq_aload_n q207_103 rfl ?_
                  refine wq_getR q207_104 rfl rfl rfl ?_
                  refine wq_aload_n q207_107 rfl ?_
                  refine wq_getI q207_108 rfl rfl ?_
                  refine wq_iload_n q207_111 rfl ?_
                  rw [e7']
                  refine sI q207_112 rfl (rfl) (by show lc < 4; omega) (by first | decide | omega) rfl ?_
                  rw [hpS]
                  have e7'' : hI (HP (up2 (upC (up2 hi' 58 6 0) 60 Z) 61 lc (nI L)) hl f dr 59) 58 7 = nI lc := k7
                  refine wq_aload_n q207_113 rfl ?_
                  refine wq_dup q207_114 rfl ?_
                  refine wq_getI q207_115 rfl rfl ?_
                  refine wq_iconst q207_118 ?_
                  refine wq_iadd q207_119 ?_
                  refine wq_putI q207_120 rfl rfl rfl rfl ?_
                  rw [e7'', nI_1, hpS]
                  have e7x : hI (HP (up2 (up2 (upC (up2 hi' 58 6 0) 60 Z) 61 lc (nI L)) 58 7 (nI (lc + 1))) hl f dr 59) 58 7 = nI (lc + 1) := rfl
                  refine wq_aload_n q207_123 rfl ?_
                  refine wq_getI q207_124 rfl rfl ?_
                  refine wq_iconst q207_127 ?_
                  refine wq_isub q207_128 ?_
                  rw [e7x, nI_pred]
                  refine rI q207_129 rfl ?_
                  refine h1 p l _ hlc4 e1 ⟨rfl, rfl, fun j hj => ?_, fun j hj => ?_, ?_, fun j hj => ?_, fun a ha ha2 ha3 => ?_, fun k hk hk2 hk3 => ?_, fun j hj => hrs.2.2.1 j hj, fun j hj => hrs.2.2.2 j hj⟩
                  · show Z (240 * lc + j) = _
                    rw [z1 j hj, ← k59]
                    rfl
                  · show Z j = _
                    rw [z2 j hj, ← k60]
                    rfl
                  · show va_up _ lc _ lc = _
                    rw [vu_s]
                  · show va_up (hi' 61) lc _ j = _
                    rw [vu_o _ _ hj, k61]
                  · have h58 : a ≠ 58 := fun z => ha (by rw [z]; decide)
                    rw [up2_o _ _ _ h58, up2_o _ _ _ ha3, upC_o _ _ ha2, up2_o _ _ _ h58]
                    exact hrs.1 a ha
                  · show up2 _ 58 7 _ 58 k = _
                    rw [up2_s, vu_o _ _ hk3]
                    show up2 hi' 58 6 0 58 k = _
                    rw [up2_s, vu_o _ _ hk2]
                    exact hrs.2.1 k hk
            · exact absurd rfl c49
          · refine wq_iconst q207_48 ?_
            refine wq_icmp_eq q207_49 (fun c49 => ?_) (fun c49 => ?_)
            · have hq := pLawT_q q e1
              exact absurd c49 (nI_nm1 (by omega))
            · refine wq_iconst q207_52 ?_
              refine rI q207_53 rfl ?_
              exact h0 q hi' e1 (hr.tr e3)
        · exact absurd c32 (by decide)
theorem c_rtext2 {k0 : Nat} (hR : RTp hi L b) (h30 : hi 58 30 = nI k0) (hk0 : k0 ≤ 4)
    (h1 : ∀ p n P hi', k0 < 4 → pPlanT b L = .inr (p, (n, P)) → PlQ k0 n P hi hi' → Q (some (.int (nI k0))) (HP hi' hl f dr 59))
    (h2 : k0 = 4 → Q (some (.int (-1))) (HP (up2 hi 58 0 0) hl f dr t))
    (h0 : ∀ q hi', pPlanT b L = .inl q → RS hi hi' → Q (some (.int (-1))) (HP hi' hl f dr 59)) :
    Ct G (0, 0) (d + 33) 207 [.ref 58, .int 2] (HP hi hl f dr t) Q := by
  have hr : RS hi (up2 hi 58 0 0) := RS.upK (by decide) _
  have hR2 : RTp (up2 hi 58 0 0) L b := hR.moved rfl rfl
  have hLm := hR.2.1
  have e30 : hI (HP (up2 hi 58 0 0) hl f dr t) 58 30 = nI k0 := h30
  refine Ct_of (ls := [_, _, _, _]) m_207.1.2.2.1 (Nat.le_of_ble_eq_true rfl) rfl ?_
  refine wq_aload_n q207_0 rfl ?_
  refine wq_iconst q207_1 ?_
  refine wq_putI q207_2 rfl rfl rfl rfl ?_
  refine wq_iload_n q207_5 rfl ?_
  refine wq_i2l q207_6 ?_
  refine wq_lconst q207_7 ?_
  refine wq_ldc2_w q207_8 ?_
  refine cS' (As := [_, _, _]) q207_11 m_170 rfl rfl rfl (c_isIn ?_)
  refine wq_if_eq q207_14 (fun c14 => ?_) (fun c14 => ?_)
  · exact absurd c14 (by decide)
  · rw [hpS]
    refine wq_iload_n q207_17 rfl ?_
    refine wq_iconst q207_18 ?_
    refine wq_icmp_ne q207_19 (fun c19 => ?_) (fun c19 => ?_)
    · refine wq_iload_n q207_30 rfl ?_
      refine wq_iconst q207_31 ?_
      refine wq_icmp_ne q207_32 (fun c32 => ?_) (fun c32 => ?_)
      · exact absurd rfl c32
      · refine wq_aload_n q207_35 rfl ?_
        refine wq_getI q207_36 rfl rfl ?_
        refine wq_iconst q207_39 ?_
        refine wq_icmp_eq q207_40 (fun c40 => ?_) (fun c40 => ?_)
        · rw [e30, show (4 : Int32) = nI 4 from rfl, nI_eq (by omega) (by omega)] at c40
          refine wq_iconst q207_52 ?_
          refine rI q207_53 rfl ?_
          exact h2 c40
        · rw [e30, show (4 : Int32) = nI 4 from rfl, nI_eq (by omega) (by omega)] at c40
          have hk4 : k0 < 4 := by omega
          refine wq_aload_n q207_43 rfl ?_
          refine wq_iload_n q207_44 rfl ?_
          refine cV (As := [_]) q207_45 m_206 rfl rfl rfl ⟨by decide, rfl⟩ rfl (c_rfault2 (d := d) hR2 (fun p n P hi' e1 e2 e4 e3 => ?_) (fun q hi' e1 e3 => ?_))
          · have hrs := hr.tr e3
            have hn := pPlanT_ok.2 p (n, P) e1
            have hn16 : n ≤ 16 := hn.2.1
            have k30 : hi' 58 30 = nI k0 := (hrs.2.1 30 (by decide)).trans h30
            refine wq_iconst q207_48 ?_
            refine wq_icmp_eq q207_49 (fun c49 => ?_) (fun c49 => ?_)
            · refine wq_aload_n q207_54 rfl ?_
              refine wq_getI q207_55 rfl rfl ?_
              refine wq_istore_n (ls' := [_, _, _, _]) q207_58 rfl ?_
              refine wq_aload_n q207_59 rfl ?_
              refine wq_iconst q207_60 ?_
              refine wq_putI q207_61 rfl rfl rfl rfl ?_
              rw [hpS]
              refine wq_iload_n q207_64 rfl ?_
              refine wq_iconst q207_65 ?_
              refine wq_icmp_ne q207_66 (fun c66 => ?_) (fun c66 => ?_)
              · refine wq_iload_n q207_130 rfl ?_
                refine wq_iconst q207_131 ?_
                refine wq_icmp_ne q207_132 (fun c132 => ?_) (fun c132 => ?_)
                · exact absurd rfl c132
                · refine wq_iconst q207_135 ?_
                  refine wq_istore_n (ls' := [_, _, _, _]) q207_136 rfl ?_
                  rw [← upC_self (up2 hi' 58 6 0) 69 rfl]
                  refine c_rt_l7 (hi := up2 hi' 58 6 0) hk4 k30 (fun Z _ z1 z2 => ?_) 48 0 _ (by omega) (fun j hj => by omega) (fun j hj => rfl) (fun j hj => rfl)
                  have e30' : hI (HP (upC (up2 hi' 58 6 0) 69 Z) hl f dr 59) 58 30 = nI k0 := k30
                  have e70 : hI (HP (upC (up2 hi' 58 6 0) 69 Z) hl f dr 59) 70 4 = nI n := e2
                  refine wq_aload_n q207_173 rfl ?_
                  refine wq_getR q207_174 rfl rfl rfl ?_
                  refine wq_aload_n q207_177 rfl ?_
                  refine wq_getI q207_178 rfl rfl ?_
                  refine wq_aload_n q207_181 rfl ?_
                  refine wq_getR q207_182 rfl rfl rfl ?_
                  refine wq_iconst q207_185 ?_
                  rw [e30']
                  refine aI q207_186 rfl ((show (4 : Int32) = nI 4 from rfl)) (by decide) (by first | decide | omega) ?_
                  rw [e70]
                  refine sI q207_187 rfl (rfl) (by show k0 < 5; omega) (by first | decide | omega) rfl ?_
                  rw [hpS]
                  have e30'' : hI (HP (up2 (upC (up2 hi' 58 6 0) 69 Z) 70 k0 (nI n)) hl f dr 59) 58 30 = nI k0 := k30
                  refine wq_aload_n q207_188 rfl ?_
                  refine wq_dup q207_189 rfl ?_
                  refine wq_getI q207_190 rfl rfl ?_
                  refine wq_iconst q207_193 ?_
                  refine wq_iadd q207_194 ?_
                  refine wq_putI q207_195 rfl rfl rfl rfl ?_
                  rw [e30'', nI_1, hpS]
                  have e30x : hI (HP (up2 (up2 (upC (up2 hi' 58 6 0) 69 Z) 70 k0 (nI n)) 58 30 (nI (k0 + 1))) hl f dr 59) 58 30 = nI (k0 + 1) := rfl
                  refine wq_aload_n q207_198 rfl ?_
                  refine wq_getI q207_199 rfl rfl ?_
                  refine wq_iconst q207_202 ?_
                  refine wq_isub q207_203 ?_
                  rw [e30x, nI_pred]
                  refine rI q207_204 rfl ?_
                  refine h1 p n P _ hk4 e1 ⟨rfl, rfl, fun j hj => ?_, fun j hj => ?_, ?_, fun j hj hj2 => ?_, fun a ha => ?_, fun k hk hk2 hk3 => ?_⟩
                  · show Z (48 * k0 + j) = _
                    rw [z1 j (by omega)]
                    exact e4 j hj
                  · show Z j = _
                    rw [z2 j hj]
                    exact hrs.2.2.1 j (by omega)
                  · show va_up _ k0 _ k0 = _
                    rw [vu_s]
                  · show va_up (hi' 70) k0 _ j = _
                    rw [vu_o _ _ hj2]
                    exact hrs.2.2.2 j hj
                  · have h58 : a ≠ 58 := fun z => ha (by rw [z]; decide)
                    rw [up2_o _ _ _ h58, up2_o _ _ _ (fun z => ha (by rw [z]; decide)), upC_o _ _ (fun z => ha (by rw [z]; decide)), up2_o _ _ _ h58]
                    exact hrs.1 a ha
                  · show up2 _ 58 30 _ 58 k = _
                    rw [up2_s, vu_o _ _ hk3]
                    show up2 hi' 58 6 0 58 k = _
                    rw [up2_s, vu_o _ _ hk2]
                    exact hrs.2.1 k hk
              · exact absurd c66 (by decide)
            · exact absurd rfl c49
          · refine wq_iconst q207_48 ?_
            refine wq_icmp_eq q207_49 (fun c49 => ?_) (fun c49 => ?_)
            · have hq := pPlanT_ok.1 q e1
              exact absurd c49 (nI_nm1 (by omega))
            · refine wq_iconst q207_52 ?_
              refine rI q207_53 rfl ?_
              exact h0 q hi' e1 (hr.tr e3)
    · exact absurd c19 (by decide)
end REFTEXT2
