/-! THE REFERENCE: texts -/
section REFTEXT
variable {G : ph_G} {d f dr t L n : Nat} {hi hi' : Nat → Nat → Int32} {hl : Nat → Nat → Int64} {Q : Option Value → ph_H → Prop} {b : Nat → Int32}
theorem c_rt_l1 {x1 x2 : Int32} (K : ∀ Z x3, (∀ j, j < 4 → Z j = hi 64 j) → wq G (0, 0) (d + 1) 207 246 [some (.ref 58), some (.int x1), some (.int x2), x3] [] (0, 0) (HP (upC hi 63 Z) hl f dr t) Q) : ∀ (m k : Nat) (Z : Nat → Int32), k + m = 4 → (∀ j, j < k → Z j = hi 64 j) →
    wq G (0, 0) (d + 1) 207 223 [some (.ref 58), some (.int x1), some (.int x2), some (.int (nI k))] [] (0, 0) (HP (upC hi 63 Z) hl f dr t) Q := by
  intro m
  induction m with
  | zero =>
    intro k Z hm hZ
    obtain rfl : k = 4 := by omega
    refine wq_iload_n q207_223 rfl ?_
    refine wq_iconst q207_224 ?_
    refine wq_icmp_ge q207_225 (fun c225 => ?_) (fun c225 => ?_)
    · exact K Z _ hZ
    · exact absurd (by decide) c225
  | succ m ih =>
    intro k Z hm hZ
    refine wq_iload_n q207_223 rfl ?_
    refine wq_iconst q207_224 ?_
    refine wq_icmp_ge q207_225 (fun c225 => ?_) (fun c225 => ?_)
    · rw [show (4 : Int32) = nI 4 from rfl, nI_leI (by omega) (by omega)] at c225
      omega
    · refine wq_aload_n q207_228 rfl ?_
      refine wq_getR q207_229 rfl rfl rfl ?_
      refine wq_iload_n q207_232 rfl ?_
      refine wq_aload_n q207_233 rfl ?_
      refine wq_getR q207_234 rfl rfl rfl ?_
      refine wq_iload_n q207_237 rfl ?_
      refine aI q207_238 rfl (rfl) (by show k < 4; omega) (by first | decide | omega) ?_
      refine sI q207_239 rfl (rfl) (by show k < 4; omega) (by first | decide | omega) rfl ?_
      refine wq_iinc (ls' := [_, _, _, _]) q207_240 rfl rfl ?_
      refine wq_goto q207_243 ?_
      rw [hpS, up2_C, upC_s, upC_C, nI_1]
      refine ih (k + 1) _ (by omega) (fun j hj => ?_)
      by_cases h : j = k
      · rw [h, vu_s]; rfl
      · rw [vu_o _ _ h]
        exact hZ j (by omega)
theorem c_rt_l2 {x1 x2 : Int32} (K : ∀ Z x3, (∀ j, j < 35 → Z j = hi 66 j) → wq G (0, 0) (d + 1) 207 272 [some (.ref 58), some (.int x1), some (.int x2), x3] [] (0, 0) (HP (upC hi 65 Z) hl f dr t) Q) : ∀ (m k : Nat) (Z : Nat → Int32), k + m = 35 → (∀ j, j < k → Z j = hi 66 j) →
    wq G (0, 0) (d + 1) 207 248 [some (.ref 58), some (.int x1), some (.int x2), some (.int (nI k))] [] (0, 0) (HP (upC hi 65 Z) hl f dr t) Q := by
  intro m
  induction m with
  | zero =>
    intro k Z hm hZ
    obtain rfl : k = 35 := by omega
    refine wq_iload_n q207_248 rfl ?_
    refine wq_bipush q207_249 ?_
    refine wq_icmp_ge q207_251 (fun c251 => ?_) (fun c251 => ?_)
    · exact K Z _ hZ
    · exact absurd (by decide) c251
  | succ m ih =>
    intro k Z hm hZ
    refine wq_iload_n q207_248 rfl ?_
    refine wq_bipush q207_249 ?_
    refine wq_icmp_ge q207_251 (fun c251 => ?_) (fun c251 => ?_)
    · rw [show (35 : Int32) = nI 35 from rfl, nI_leI (by omega) (by omega)] at c251
      omega
    · refine wq_aload_n q207_254 rfl ?_
      refine wq_getR q207_255 rfl rfl rfl ?_
      refine wq_iload_n q207_258 rfl ?_
      refine wq_aload_n q207_259 rfl ?_
      refine wq_getR q207_260 rfl rfl rfl ?_
      refine wq_iload_n q207_263 rfl ?_
      refine aI q207_264 rfl (rfl) (by show k < 35; omega) (by first | decide | omega) ?_
      refine sI q207_265 rfl (rfl) (by show k < 35; omega) (by first | decide | omega) rfl ?_
      refine wq_iinc (ls' := [_, _, _, _]) q207_266 rfl rfl ?_
      refine wq_goto q207_269 ?_
      rw [hpS, up2_C, upC_s, upC_C, nI_1]
      refine ih (k + 1) _ (by omega) (fun j hj => ?_)
      by_cases h : j = k
      · rw [h, vu_s]; rfl
      · rw [vu_o _ _ h]
        exact hZ j (by omega)
theorem c_rt_l3 {x1 x2 : Int32} (K : ∀ Z x3, (∀ j, j < 12 → Z j = hi 68 j) → wq G (0, 0) (d + 1) 207 298 [some (.ref 58), some (.int x1), some (.int x2), x3] [] (0, 0) (HP (upC hi 67 Z) hl f dr t) Q) : ∀ (m k : Nat) (Z : Nat → Int32), k + m = 12 → (∀ j, j < k → Z j = hi 68 j) →
    wq G (0, 0) (d + 1) 207 274 [some (.ref 58), some (.int x1), some (.int x2), some (.int (nI k))] [] (0, 0) (HP (upC hi 67 Z) hl f dr t) Q := by
  intro m
  induction m with
  | zero =>
    intro k Z hm hZ
    obtain rfl : k = 12 := by omega
    refine wq_iload_n q207_274 rfl ?_
    refine wq_bipush q207_275 ?_
    refine wq_icmp_ge q207_277 (fun c277 => ?_) (fun c277 => ?_)
    · exact K Z _ hZ
    · exact absurd (by decide) c277
  | succ m ih =>
    intro k Z hm hZ
    refine wq_iload_n q207_274 rfl ?_
    refine wq_bipush q207_275 ?_
    refine wq_icmp_ge q207_277 (fun c277 => ?_) (fun c277 => ?_)
    · rw [show (12 : Int32) = nI 12 from rfl, nI_leI (by omega) (by omega)] at c277
      omega
    · refine wq_aload_n q207_280 rfl ?_
      refine wq_getR q207_281 rfl rfl rfl ?_
      refine wq_iload_n q207_284 rfl ?_
      refine wq_aload_n q207_285 rfl ?_
      refine wq_getR q207_286 rfl rfl rfl ?_
      refine wq_iload_n q207_289 rfl ?_
      refine aI q207_290 rfl (rfl) (by show k < 12; omega) (by first | decide | omega) ?_
      refine sI q207_291 rfl (rfl) (by show k < 12; omega) (by first | decide | omega) rfl ?_
      refine wq_iinc (ls' := [_, _, _, _]) q207_292 rfl rfl ?_
      refine wq_goto q207_295 ?_
      rw [hpS, up2_C, upC_s, upC_C, nI_1]
      refine ih (k + 1) _ (by omega) (fun j hj => ?_)
      by_cases h : j = k
      · rw [h, vu_s]; rfl
      · rw [vu_o _ _ h]
        exact hZ j (by omega)
theorem c_rt_l4 {x1 x2 : Int32} (K : ∀ Z x3, (∀ j, j < 214 → Z j = 0) → wq G (0, 0) (d + 1) 207 320 [some (.ref 58), some (.int x1), some (.int x2), x3] [] (0, 0) (HP (upC hi 71 Z) hl f dr t) Q) : ∀ (m k : Nat) (Z : Nat → Int32), k + m = 214 → (∀ j, j < k → Z j = 0) →
    wq G (0, 0) (d + 1) 207 300 [some (.ref 58), some (.int x1), some (.int x2), some (.int (nI k))] [] (0, 0) (HP (upC hi 71 Z) hl f dr t) Q := by
  intro m
  induction m with
  | zero =>
    intro k Z hm hZ
    obtain rfl : k = 214 := by omega
    refine wq_iload_n q207_300 rfl ?_
    refine wq_sipush q207_301 ?_
    refine wq_icmp_ge q207_304 (fun c304 => ?_) (fun c304 => ?_)
    · exact K Z _ hZ
    · exact absurd (by decide) c304
  | succ m ih =>
    intro k Z hm hZ
    refine wq_iload_n q207_300 rfl ?_
    refine wq_sipush q207_301 ?_
    refine wq_icmp_ge q207_304 (fun c304 => ?_) (fun c304 => ?_)
    · rw [show (214 : Int32) = nI 214 from rfl, nI_leI (by omega) (by omega)] at c304
      omega
    · refine wq_aload_n q207_307 rfl ?_
      refine wq_getR q207_308 rfl rfl rfl ?_
      refine wq_iload_n q207_311 rfl ?_
      refine wq_iconst q207_312 ?_
      refine sI q207_313 rfl (rfl) (by show k < 214; omega) (by first | decide | omega) rfl ?_
      refine wq_iinc (ls' := [_, _, _, _]) q207_314 rfl rfl ?_
      refine wq_goto q207_317 ?_
      rw [hpS, up2_C, upC_s, upC_C, nI_1]
      refine ih (k + 1) _ (by omega) (fun j hj => ?_)
      by_cases h : j = k
      · rw [h, vu_s]
      · rw [vu_o _ _ h]
        exact hZ j (by omega)
/-- the reference's row as a fort opens -/
def nwV (n : Nat) (br : Nat → Int32) (j : Nat) : Int32 := if j < 4 * n ∧ j % 4 = 0 then nI (j / 4) else if j < 4 * n ∧ j % 4 = 1 then br (j / 4) else 0
theorem c_told {h : ph_H} {p w : Nat} (h1 : (hS h)[58]? = some (11, 48)) (h2 : hR h 58 20 = some 65) (h3 : (hS h)[65]? = some (100, 35)) (hp : p < 7) (hw : w < 5) (hQ : Q (some (.int (hI h 65 (p * 5 + w)))) h) : Ct G (0, 0) d 211 [.ref 58, .int (nI p), .int (nI w)] h Q := by
  refine Ct_of (ls := [_, _, _]) m_211.1.2.2.1 (Nat.le_of_ble_eq_true rfl) rfl ?_
  refine wq_aload_n q211_0 rfl ?_
  refine wq_getR q211_1 (by first | exact h1 | exact h2 | exact h3 | rfl) rfl (by first | exact h1 | exact h2 | exact h3 | rfl) ?_
  refine wq_iconst q211_4 ?_
  refine wq_iload_n q211_5 rfl ?_
  refine wq_imul q211_6 ?_
  refine wq_iload_n q211_7 rfl ?_
  refine wq_iadd q211_8 ?_
  refine aI q211_9 (by first | exact h1 | exact h2 | exact h3 | rfl) ((by rw [show (5 : Int32) = nI 5 from rfl, pk_mul, nI_add, Nat.mul_comm])) (by show p * 5 + w < 35; omega) (by first | decide | omega) ?_
  refine rI q211_10 rfl ?_
  exact hQ
theorem c_toldH {p w : Nat} (hp : p < 7) (hw : w < 5) (hQ : Q (some (.int (hi 65 (p * 5 + w)))) (HP hi hl f dr t)) : Ct G (0, 0) d 211 [.ref 58, .int (nI p), .int (nI w)] (HP hi hl f dr t) Q := c_told rfl rfl rfl hp hw hQ
theorem c_rt_l5 {x1 x2 : Int32} (hn : n ≤ 7) (h26 : hi 58 26 = nI n) (K : ∀ Z x3, (∀ j, j < 214 → Z j = nwV n (fun p => hi 65 (p * 5 + 4)) j) → wq G (0, 0) (d + 1) 207 363 [some (.ref 58), some (.int x1), some (.int x2), x3] [] (0, 0) (HP (upC hi 71 Z) hl f dr t) Q) : ∀ (m k : Nat) (Z : Nat → Int32), k + m = n → (∀ j, j < 214 → Z j = nwV k (fun p => hi 65 (p * 5 + 4)) j) →
    wq G (0, 0) (d + 1) 207 322 [some (.ref 58), some (.int x1), some (.int x2), some (.int (nI k))] [] (0, 0) (HP (upC hi 71 Z) hl f dr t) Q := by
  have ec : ∀ Z, hI (HP (upC hi 71 Z) hl f dr t) 58 26 = nI n := fun Z => h26
  intro m
  induction m with
  | zero =>
    intro k Z hm hZ
    obtain rfl : k = n := by omega
    refine wq_iload_n q207_322 rfl ?_
    refine wq_aload_n q207_323 rfl ?_
    refine wq_getI q207_324 rfl rfl ?_
    refine wq_icmp_ge q207_327 (fun c327 => ?_) (fun c327 => ?_)
    · exact K Z _ hZ
    · rw [ec] at c327
      exact absurd (nI_le (Nat.le_refl _) (by omega)) c327
  | succ m ih =>
    intro k Z hm hZ
    refine wq_iload_n q207_322 rfl ?_
    refine wq_aload_n q207_323 rfl ?_
    refine wq_getI q207_324 rfl rfl ?_
    refine wq_icmp_ge q207_327 (fun c327 => ?_) (fun c327 => ?_)
    · rw [ec, nI_leI (by omega) (by omega)] at c327
      omega
    · refine wq_aload_n q207_330 rfl ?_
      refine wq_getR q207_331 rfl rfl rfl ?_
      refine wq_iconst q207_334 ?_
      refine wq_iload_n q207_335 rfl ?_
      refine wq_imul q207_336 ?_
      refine wq_iconst q207_337 ?_
      refine wq_iadd q207_338 ?_
      refine wq_iload_n q207_339 rfl ?_
      refine sI q207_340 rfl ((by rw [show (4 : Int32) = nI 4 from rfl, pk_mul, show (0 : Int32) = nI 0 from rfl, nI_add])) (by show 4 * k + 0 < 214; omega) (by first | decide | omega) rfl ?_
      rw [hpS, up2_C, upC_s, upC_C]
      refine wq_aload_n q207_341 rfl ?_
      refine wq_getR q207_342 rfl rfl rfl ?_
      refine wq_iconst q207_345 ?_
      refine wq_iload_n q207_346 rfl ?_
      refine wq_imul q207_347 ?_
      refine wq_iconst q207_348 ?_
      refine wq_iadd q207_349 ?_
      refine wq_aload_n q207_350 rfl ?_
      refine wq_iload_n q207_351 rfl ?_
      refine wq_iconst q207_352 ?_
      refine cV (As := [_, _]) q207_353 m_211 rfl rfl rfl ⟨by decide, rfl⟩ rfl (c_toldH (w := 4) (by omega) (by omega) ?_)
      refine sI q207_356 rfl ((by rw [show (4 : Int32) = nI 4 from rfl, pk_mul, show (1 : Int32) = nI 1 from rfl, nI_add])) (by show 4 * k + 1 < 214; omega) (by first | decide | omega) rfl ?_
      refine wq_iinc (ls' := [_, _, _, _]) q207_357 rfl rfl ?_
      refine wq_goto q207_360 ?_
      rw [hpS, up2_C, upC_s, upC_C, nI_1]
      refine ih (k + 1) _ (by omega) (fun j hj => ?_)
      by_cases h1 : j = 4 * k + 1
      · rw [h1, vu_s]
        unfold nwV
        rw [if_neg (by omega), if_pos (by omega), show (4 * k + 1) / 4 = k by omega]
        rfl
      · rw [vu_o _ _ h1]
        by_cases h0 : j = 4 * k + 0
        · rw [h0, vu_s]
          unfold nwV
          rw [if_pos (by omega), show (4 * k + 0) / 4 = k by omega]
        · rw [vu_o _ _ h0, hZ j hj]
          unfold nwV
          have e1 : (j < 4 * k ∧ j % 4 = 0) ↔ (j < 4 * (k + 1) ∧ j % 4 = 0) := by omega
          have e2 : (j < 4 * k ∧ j % 4 = 1) ↔ (j < 4 * (k + 1) ∧ j % 4 = 1) := by omega
          simp only [e1, e2]
/-- a fort's text is taken by the reference -/
def RtK : List Nat := [0, 6, 8, 9, 10, 11, 12, 13, 14, 17, 26, 27, 28, 29, 31, 38, 40, 41, 45, 47]
def OpnQ (S : FS) (hi hi' : Nat → Nat → Int32) : Prop := hi' 58 26 = nI S.2.1.1 ∧ hi' 58 27 = nI S.2.2.1.1 ∧ (∀ k, k < 4 → hi' 63 k = S.1 k) ∧ (∀ k, k < S.2.1.1 * 5 → hi' 65 k = S.2.1.2 k) ∧ (∀ k, k < S.2.2.1.1 * 2 → hi' 67 k = S.2.2.1.2 k) ∧ (∀ j, j < 214 → hi' 71 j = nwV S.2.1.1 (fun p => S.2.1.2 (p * 5 + 4)) j) ∧ hi' 58 6 = 0 ∧ hi' 58 38 = 0 ∧ hi' 58 45 = 0 ∧ hi' 58 47 = 0 ∧
  (∀ a, a ∉ rsC → a ∉ [63, 65, 67, 71] → hi' a = hi a) ∧ (∀ k, k ∉ RtK → hi' 58 k = hi 58 k) ∧ (∀ j, j < 192 → hi' 69 j = hi 69 j) ∧ (∀ j, j < 4 → hi' 70 j = hi 70 j)
theorem c_rtext_no {x : Int32} (hx : inB x 3 = false) (hQ : Q (some (.int (-1))) (HP (up2 hi 58 0 0) hl f dr t)) : Ct G (0, 0) (d + 33) 207 [.ref 58, .int x] (HP hi hl f dr t) Q := by
  refine Ct_of (ls := [_, _, _, _]) m_207.1.2.2.1 (Nat.le_of_ble_eq_true rfl) rfl ?_
  refine wq_aload_n q207_0 rfl ?_
  refine wq_iconst q207_1 ?_
  refine wq_putI q207_2 rfl rfl rfl rfl ?_
  refine wq_iload_n q207_5 rfl ?_
  refine wq_i2l q207_6 ?_
  refine wq_lconst q207_7 ?_
  refine wq_ldc2_w q207_8 ?_
  refine cS' (As := [_, _, _]) q207_11 m_170 rfl rfl rfl (c_isIn ?_)
  refine wq_if_eq q207_14 (fun c14 => ?_) (fun c14 => ?_)
  · refine wq_iconst q207_52 ?_
    refine rI q207_53 rfl ?_
    exact hQ
  · have c := i10 c14
    rw [iiB_3, hx] at c
    cases c
theorem c_rtext0 (hR : RTp hi L b)
    (h1 : ∀ p S hi', pFortT b L = .inr (p, S) → OpnQ S hi hi' → Q (some (.int (nI S.2.1.1))) (HP hi' hl f dr 59))
    (h0 : ∀ q hi', pFortT b L = .inl q → RS hi hi' → Q (some (.int (-1))) (HP hi' hl f dr 59)) :
    Ct G (0, 0) (d + 33) 207 [.ref 58, .int 0] (HP hi hl f dr t) Q := by
  have hr : RS hi (up2 hi 58 0 0) := RS.upK (by decide) _
  have hR2 : RTp (up2 hi 58 0 0) L b := hR.moved rfl rfl
  have hm : ∀ k, k ∈ rsK → k ∈ RtK := by decide
  refine Ct_of (ls := [_, _, _, _]) m_207.1.2.2.1 (Nat.le_of_ble_eq_true rfl) rfl ?_
  refine wq_aload_n q207_0 rfl ?_
  refine wq_iconst q207_1 ?_
  refine wq_putI q207_2 rfl rfl rfl rfl ?_
  refine wq_iload_n q207_5 rfl ?_
  refine wq_i2l q207_6 ?_
  refine wq_lconst q207_7 ?_
  refine wq_ldc2_w q207_8 ?_
  refine cS' (As := [_, _, _]) q207_11 m_170 rfl rfl rfl (c_isIn ?_)
  refine wq_if_eq q207_14 (fun c14 => ?_) (fun c14 => ?_)
  · exact absurd c14 (by decide)
  · rw [hpS]
    refine wq_iload_n q207_17 rfl ?_
    refine wq_iconst q207_18 ?_
    refine wq_icmp_ne q207_19 (fun c19 => ?_) (fun c19 => ?_)
    · refine wq_iload_n q207_30 rfl ?_
      refine wq_iconst q207_31 ?_
      refine wq_icmp_ne q207_32 (fun c32 => ?_) (fun c32 => ?_)
      · refine wq_aload_n q207_43 rfl ?_
        refine wq_iload_n q207_44 rfl ?_
        refine cV (As := [_]) q207_45 m_206 rfl rfl rfl ⟨by decide, rfl⟩ rfl (c_rfault0 (d := d) hR2 (fun p S hi' e1 e2 e3 => ?_) (fun q hi' e1 e3 => ?_))
        · obtain ⟨g1, g2, g3, g4, g5⟩ := e2
          obtain ⟨hok, hc2, he1, hw⟩ := pFortT_ok.2 p S e1
          have n7 := hok.2.1
          have n6 := hok.2.2.2.1
          have hrs := hr.tr e3
          refine wq_iconst q207_48 ?_
          refine wq_icmp_eq q207_49 (fun c49 => ?_) (fun c49 => ?_)
          · refine wq_aload_n q207_54 rfl ?_
            refine wq_getI q207_55 rfl rfl ?_
            refine wq_istore_n (ls' := [_, _, _, _]) q207_58 rfl ?_
            refine wq_aload_n q207_59 rfl ?_
            refine wq_iconst q207_60 ?_
            refine wq_putI q207_61 rfl rfl rfl rfl ?_
            rw [hpS]
            refine wq_iload_n q207_64 rfl ?_
            refine wq_iconst q207_65 ?_
            refine wq_icmp_ne q207_66 (fun c66 => ?_) (fun c66 => ?_)
            · refine wq_iload_n q207_130 rfl ?_
              refine wq_iconst q207_131 ?_
              refine wq_icmp_ne q207_132 (fun c132 => ?_) (fun c132 => ?_)
              · refine wq_aload_n q207_205 rfl ?_
                refine wq_aload_n q207_206 rfl ?_
                refine wq_getI q207_207 rfl rfl ?_
                refine wq_putI q207_210 rfl rfl rfl rfl ?_
                rw [hpS]
                refine wq_aload_n q207_213 rfl ?_
                refine wq_aload_n q207_214 rfl ?_
                refine wq_getI q207_215 rfl rfl ?_
                refine wq_putI q207_218 rfl rfl rfl rfl ?_
                rw [hpS]
                refine wq_iconst q207_221 ?_
                refine wq_istore_n (ls' := [_, _, _, _]) q207_222 rfl ?_
                generalize hg : up2 (up2 (up2 hi' 58 6 0) 58 26 (hI (HP (up2 hi' 58 6 0) hl f dr 59) 58 28)) 58 27 (hI (HP (up2 (up2 hi' 58 6 0) 58 26 (hI (HP (up2 hi' 58 6 0) hl f dr 59) 58 28)) hl f dr 59) 58 29) = h5
                have k26 : h5 58 26 = nI S.2.1.1 := by subst hg; exact g1
                have k27 : h5 58 27 = nI S.2.2.1.1 := by subst hg; exact g2
                have k6 : h5 58 6 = 0 := by subst hg; rfl
                have kK : ∀ k, k ≠ 6 → k ≠ 26 → k ≠ 27 → h5 58 k = hi' 58 k := by
                  intro k z1 z2 z3
                  subst hg
                  rw [up2_s, vu_o _ _ z3, up2_s, vu_o _ _ z2, up2_s, vu_o _ _ z1]
                have kA : ∀ a, a ≠ 58 → h5 a = hi' a := by
                  intro a ha
                  subst hg
                  rw [up2_o _ _ _ ha, up2_o _ _ _ ha, up2_o _ _ _ ha]
                rw [← upC_self h5 63 rfl]
                refine c_rt_l1 (fun Z1 _ z1 => ?_) 4 0 _ (by omega) (fun j hj => by omega)
                refine wq_iconst q207_246 ?_
                refine wq_istore_n (ls' := [_, _, _, _]) q207_247 rfl ?_
                rw [← upC_self (upC h5 63 Z1) 65 rfl]
                refine c_rt_l2 (fun Z2 _ z2 => ?_) 35 0 _ (by omega) (fun j hj => by omega)
                refine wq_iconst q207_272 ?_
                refine wq_istore_n (ls' := [_, _, _, _]) q207_273 rfl ?_
                rw [← upC_self (upC (upC h5 63 Z1) 65 Z2) 67 rfl]
                refine c_rt_l3 (fun Z3 _ z3 => ?_) 12 0 _ (by omega) (fun j hj => by omega)
                refine wq_iconst q207_298 ?_
                refine wq_istore_n (ls' := [_, _, _, _]) q207_299 rfl ?_
                rw [← upC_self (upC (upC (upC h5 63 Z1) 65 Z2) 67 Z3) 71 rfl]
                refine c_rt_l4 (fun Z4 _ z4 => ?_) 214 0 _ (by omega) (fun j hj => by omega)
                refine wq_iconst q207_320 ?_
                refine wq_istore_n (ls' := [_, _, _, _]) q207_321 rfl ?_
                refine c_rt_l5 (hi := upC (upC (upC h5 63 Z1) 65 Z2) 67 Z3) (n := S.2.1.1) n7 k26 (fun Z5 _ z5 => ?_) S.2.1.1 0 _ (by omega) (fun j hj => ?_)
                · refine wq_aload_n q207_363 rfl ?_
                  refine wq_iconst q207_364 ?_
                  refine wq_putI q207_365 rfl rfl rfl rfl ?_
                  rw [hpS]
                  refine wq_aload_n q207_368 rfl ?_
                  refine wq_iconst q207_369 ?_
                  refine wq_putI q207_370 rfl rfl rfl rfl ?_
                  rw [hpS]
                  refine wq_aload_n q207_373 rfl ?_
                  refine wq_iconst q207_374 ?_
                  refine wq_putI q207_375 rfl rfl rfl rfl ?_
                  rw [hpS]
                  refine wq_aload_n q207_378 rfl ?_
                  refine wq_getI q207_379 rfl rfl ?_
                  have ef : hI (HP (up2 (up2 (up2 (upC (upC (upC (upC h5 63 Z1) 65 Z2) 67 Z3) 71 Z5) 58 45 0) 58 38 0) 58 47 0) hl f dr 59) 58 26 = nI S.2.1.1 := k26
                  rw [ef]
                  refine rI q207_382 rfl ?_
                  refine h1 p S _ e1 ⟨k26, k27, fun k hk => ?_, fun k hk => ?_, fun k hk => ?_, fun j hj => ?_, k6, rfl, rfl, rfl, fun a ha ha2 => ?_, fun k hk => ?_, fun j hj => ?_, fun j hj => ?_⟩
                  · show Z1 k = _
                    rw [z1 k hk, kA 64 (by decide)]
                    exact g3 k hk
                  · show Z2 k = _
                    rw [z2 k (by omega)]
                    show h5 66 k = _
                    rw [kA 66 (by decide)]
                    exact g4 k hk
                  · show Z3 k = _
                    rw [z3 k (by omega)]
                    show h5 68 k = _
                    rw [kA 68 (by decide)]
                    exact g5 k hk
                  · show Z5 j = _
                    rw [z5 j hj]
                    unfold nwV
                    by_cases q1 : j < 4 * S.2.1.1 ∧ j % 4 = 0
                    · rw [if_pos q1, if_pos q1]
                    · rw [if_neg q1, if_neg q1]
                      by_cases q2 : j < 4 * S.2.1.1 ∧ j % 4 = 1
                      · rw [if_pos q2, if_pos q2]
                        show Z2 (j / 4 * 5 + 4) = _
                        rw [z2 _ (by omega)]
                        show h5 66 _ = _
                        rw [kA 66 (by decide)]
                        exact g4 _ (by omega)
                      · rw [if_neg q2, if_neg q2]
                  · have h58 : a ≠ 58 := fun z => ha (by rw [z]; decide)
                    rw [up2_o _ _ _ h58, up2_o _ _ _ h58, up2_o _ _ _ h58, upC_o _ _ (fun z => ha2 (by rw [z]; decide)), upC_o _ _ (fun z => ha2 (by rw [z]; decide)), upC_o _ _ (fun z => ha2 (by rw [z]; decide)), upC_o _ _ (fun z => ha2 (by rw [z]; decide)), kA a h58]
                    exact hrs.1 a ha
                  · rw [up2_s, vu_o _ _ (fun z => hk (by rw [z]; decide)), up2_s, vu_o _ _ (fun z => hk (by rw [z]; decide)), up2_s, vu_o _ _ (fun z => hk (by rw [z]; decide))]
                    show h5 58 k = _
                    rw [kK k (fun z => hk (by rw [z]; decide)) (fun z => hk (by rw [z]; decide)) (fun z => hk (by rw [z]; decide))]
                    exact hrs.2.1 k (fun z => hk (hm k z))
                  · show h5 69 j = _
                    rw [kA 69 (by decide)]
                    exact hrs.2.2.1 j hj
                  · show h5 70 j = _
                    rw [kA 70 (by decide)]
                    exact hrs.2.2.2 j hj
                · rw [z4 j hj]
                  unfold nwV
                  rw [if_neg (by omega), if_neg (by omega)]
              · exact absurd c132 (by decide)
            · exact absurd c66 (by decide)
          · exact absurd rfl c49
        · have hq := pFortT_ok.1 q e1
          have hLm := hR.2.1
          refine wq_iconst q207_48 ?_
          refine wq_icmp_eq q207_49 (fun c49 => ?_) (fun c49 => ?_)
          · exact absurd c49 (nI_nm1 (by omega))
          · refine wq_iconst q207_52 ?_
            refine rI q207_53 rfl ?_
            exact h0 q hi' e1 (hr.tr e3)
      · exact absurd c32 (by decide)
    · exact absurd c19 (by decide)
end REFTEXT
