/-! THE REFERENCE: where there is no fort -/
section REFNOFORT
variable {G : ph_G} {d f dr t : Nat} {hi : Nat → Nat → Int32} {hl : Nat → Nat → Int64} {Q : Option Value → ph_H → Prop}
theorem c_rbest0 (h26 : hi 58 26 = 0) (hQ : Q (some (.int (-1))) (HP (up2 hi 58 0 0) hl f dr t)) : Ct G (0, 0) (d + 38) 259 [.ref 58] (HP hi hl f dr t) Q := by
  have e26 : hI (HP (up2 hi 58 0 0) hl f dr t) 58 26 = 0 := h26
  refine Ct_of (ls := [_, _, _, _, _]) m_259.1.2.2.1 (Nat.le_of_ble_eq_true rfl) rfl ?_
  refine wq_aload_n q259_0 rfl ?_
  refine wq_iconst q259_1 ?_
  refine wq_putI q259_2 rfl rfl rfl rfl ?_
  rw [hpS]
  refine wq_aload_n q259_5 rfl ?_
  refine wq_getI q259_6 rfl rfl ?_
  refine wq_if_ne q259_9 (fun c9 => ?_) (fun c9 => ?_)
  · exact absurd e26 c9
  · refine wq_iconst q259_12 ?_
    refine rI q259_13 rfl ?_
    exact hQ
theorem c_rleast0 (h26 : hi 58 26 = 0) (hQ : Q (some (.int (-1))) (HP (up2 hi 58 0 0) hl f dr t)) : Ct G (0, 0) (d + 3) 266 [.ref 58] (HP hi hl f dr t) Q := by
  have e26 : hI (HP (up2 hi 58 0 0) hl f dr t) 58 26 = 0 := h26
  refine Ct_of (ls := [_]) m_266.1.2.2.1 (Nat.le_of_ble_eq_true rfl) rfl ?_
  refine wq_aload_n q266_0 rfl ?_
  refine wq_iconst q266_1 ?_
  refine wq_putI q266_2 rfl rfl rfl rfl ?_
  rw [hpS]
  refine wq_aload_n q266_5 rfl ?_
  refine wq_getI q266_6 rfl rfl ?_
  refine wq_if_ne q266_9 (fun c9 => ?_) (fun c9 => ?_)
  · exact absurd e26 c9
  · refine wq_iconst q266_12 ?_
    refine wq_goto q266_13 ?_
    refine rI q266_20 rfl ?_
    exact hQ
theorem c_rliars0 (h26 : hi 58 26 = 0) (hQ : Q (some (.int (-1))) (HP (up2 hi 58 0 0) hl f dr t)) : Ct G (0, 0) (d + 3) 271 [.ref 58] (HP hi hl f dr t) Q := by
  have e26 : hI (HP (up2 hi 58 0 0) hl f dr t) 58 26 = 0 := h26
  refine Ct_of (ls := [_, _, _, _]) m_271.1.2.2.1 (Nat.le_of_ble_eq_true rfl) rfl ?_
  refine wq_aload_n q271_0 rfl ?_
  refine wq_iconst q271_1 ?_
  refine wq_putI q271_2 rfl rfl rfl rfl ?_
  rw [hpS]
  refine wq_aload_n q271_5 rfl ?_
  refine wq_getI q271_6 rfl rfl ?_
  refine wq_if_ne q271_9 (fun c9 => ?_) (fun c9 => ?_)
  · exact absurd e26 c9
  · refine wq_iconst q271_12 ?_
    refine rI q271_13 rfl ?_
    exact hQ
theorem c_rwears0 (h26 : hi 58 26 = 0) (hQ : Q (some (.int (-1))) (HP (up2 hi 58 0 0) hl f dr t)) : Ct G (0, 0) (d + 2) 277 [.ref 58] (HP hi hl f dr t) Q := by
  have e26 : hI (HP (up2 hi 58 0 0) hl f dr t) 58 26 = 0 := h26
  refine Ct_of (ls := [_, _, _, _, _]) m_277.1.2.2.1 (Nat.le_of_ble_eq_true rfl) rfl ?_
  refine wq_aload_n q277_0 rfl ?_
  refine wq_iconst q277_1 ?_
  refine wq_putI q277_2 rfl rfl rfl rfl ?_
  rw [hpS]
  refine wq_aload_n q277_5 rfl ?_
  refine wq_getI q277_6 rfl rfl ?_
  refine wq_if_ne q277_9 (fun c9 => ?_) (fun c9 => ?_)
  · exact absurd e26 c9
  · refine wq_iconst q277_12 ?_
    refine rI q277_13 rfl ?_
    exact hQ
theorem c_rmerits0 (h26 : hi 58 26 = 0) (hQ : Q (some (.int (-1))) (HP (up2 hi 58 0 0) hl f dr t)) : Ct G (0, 0) (d + 1) 279 [.ref 58] (HP hi hl f dr t) Q := by
  have e26 : hI (HP (up2 hi 58 0 0) hl f dr t) 58 26 = 0 := h26
  refine Ct_of (ls := [_, _, _, _]) m_279.1.2.2.1 (Nat.le_of_ble_eq_true rfl) rfl ?_
  refine wq_aload_n q279_0 rfl ?_
  refine wq_iconst q279_1 ?_
  refine wq_putI q279_2 rfl rfl rfl rfl ?_
  rw [hpS]
  refine wq_aload_n q279_5 rfl ?_
  refine wq_getI q279_6 rfl rfl ?_
  refine wq_if_ne q279_9 (fun c9 => ?_) (fun c9 => ?_)
  · exact absurd e26 c9
  · refine wq_iconst q279_12 ?_
    refine rI q279_13 rfl ?_
    exact hQ
theorem c_rquiet0 (h26 : hi 58 26 = 0) (hQ : Q (some (.int (-1))) (HP (up2 hi 58 0 0) hl f dr t)) : Ct G (0, 0) (d + 1) 281 [.ref 58] (HP hi hl f dr t) Q := by
  have e26 : hI (HP (up2 hi 58 0 0) hl f dr t) 58 26 = 0 := h26
  refine Ct_of (ls := [_, _, _]) m_281.1.2.2.1 (Nat.le_of_ble_eq_true rfl) rfl ?_
  refine wq_aload_n q281_0 rfl ?_
  refine wq_iconst q281_1 ?_
  refine wq_putI q281_2 rfl rfl rfl rfl ?_
  rw [hpS]
  refine wq_aload_n q281_5 rfl ?_
  refine wq_getI q281_6 rfl rfl ?_
  refine wq_if_ne q281_9 (fun c9 => ?_) (fun c9 => ?_)
  · exact absurd e26 c9
  · refine wq_iconst q281_12 ?_
    refine rI q281_13 rfl ?_
    exact hQ
theorem c_rrich0 (h26 : hi 58 26 = 0) (hQ : Q (some (.int (-1))) (HP (up2 hi 58 0 0) hl f dr t)) : Ct G (0, 0) (d + 1) 282 [.ref 58] (HP hi hl f dr t) Q := by
  have e26 : hI (HP (up2 hi 58 0 0) hl f dr t) 58 26 = 0 := h26
  refine Ct_of (ls := [_]) m_282.1.2.2.1 (Nat.le_of_ble_eq_true rfl) rfl ?_
  refine wq_aload_n q282_0 rfl ?_
  refine wq_iconst q282_1 ?_
  refine wq_putI q282_2 rfl rfl rfl rfl ?_
  rw [hpS]
  refine wq_aload_n q282_5 rfl ?_
  refine wq_getI q282_6 rfl rfl ?_
  refine wq_if_ne q282_9 (fun c9 => ?_) (fun c9 => ?_)
  · exact absurd e26 c9
  · refine wq_iconst q282_12 ?_
    refine wq_goto q282_13 ?_
    refine rI q282_24 rfl ?_
    exact hQ
theorem c_rmost0 (h26 : hi 58 26 = 0) (hQ : Q (some (.int (-1))) (HP (up2 hi 58 0 0) hl f dr t)) : Ct G (0, 0) (d + 1) 283 [.ref 58] (HP hi hl f dr t) Q := by
  have e26 : hI (HP (up2 hi 58 0 0) hl f dr t) 58 26 = 0 := h26
  refine Ct_of (ls := [_, _, _]) m_283.1.2.2.1 (Nat.le_of_ble_eq_true rfl) rfl ?_
  refine wq_aload_n q283_0 rfl ?_
  refine wq_iconst q283_1 ?_
  refine wq_putI q283_2 rfl rfl rfl rfl ?_
  rw [hpS]
  refine wq_aload_n q283_5 rfl ?_
  refine wq_getI q283_6 rfl rfl ?_
  refine wq_if_ne q283_9 (fun c9 => ?_) (fun c9 => ?_)
  · exact absurd e26 c9
  · refine wq_iconst q283_12 ?_
    refine rI q283_13 rfl ?_
    exact hQ
theorem c_rswap0 {x : Int32} (h26 : hi 58 26 = 0) (hQ : Q (some (.int (-1))) (HP (up2 hi 58 0 0) hl f dr t)) : Ct G (0, 0) (d + 38) 280 [.ref 58, .int x] (HP hi hl f dr t) Q := by
  have e26 : hI (HP (up2 hi 58 0 0) hl f dr t) 58 26 = 0 := h26
  refine Ct_of (ls := [_, _, _, _, _, _, _]) m_280.1.2.2.1 (Nat.le_of_ble_eq_true rfl) rfl ?_
  refine wq_aload_n q280_0 rfl ?_
  refine wq_iconst q280_1 ?_
  refine wq_putI q280_2 rfl rfl rfl rfl ?_
  rw [hpS]
  refine wq_aload_n q280_5 rfl ?_
  refine wq_getI q280_6 rfl rfl ?_
  refine wq_if_eq q280_9 (fun c9 => ?_) (fun c9 => ?_)
  · refine wq_iconst q280_22 ?_
    refine rI q280_23 rfl ?_
    exact hQ
  · exact absurd e26 c9
theorem c_rprice0 {x : Int32} (h26 : hi 58 26 = 0) (hQ : Q (some (.int (-1))) (HP (up2 hi 58 0 0) hl f dr t)) : Ct G (0, 0) (d + 38) 284 [.ref 58, .int x] (HP hi hl f dr t) Q := by
  have e26 : hI (HP (up2 hi 58 0 0) hl f dr t) 58 26 = 0 := h26
  refine Ct_of (ls := [_, _, _, _, _, _]) m_284.1.2.2.1 (Nat.le_of_ble_eq_true rfl) rfl ?_
  refine wq_aload_n q284_0 rfl ?_
  refine wq_iconst q284_1 ?_
  refine wq_putI q284_2 rfl rfl rfl rfl ?_
  rw [hpS]
  refine wq_aload_n q284_5 rfl ?_
  refine wq_getI q284_6 rfl rfl ?_
  refine wq_if_eq q284_9 (fun c9 => ?_) (fun c9 => ?_)
  · refine wq_iconst q284_22 ?_
    refine rI q284_23 rfl ?_
    exact hQ
  · exact absurd e26 c9
theorem c_rcodes0 {x : Int32} (h26 : hi 58 26 = 0) (hQ : Q (some (.int (-1))) (HP (up2 hi 58 0 0) hl f dr t)) : Ct G (0, 0) (d + 7) 261 [.ref 58, .int x] (HP hi hl f dr t) Q := by
  have e26 : hI (HP (up2 hi 58 0 0) hl f dr t) 58 26 = 0 := h26
  refine Ct_of (ls := [_, _]) m_261.1.2.2.1 (Nat.le_of_ble_eq_true rfl) rfl ?_
  refine wq_aload_n q261_0 rfl ?_
  refine wq_iconst q261_1 ?_
  refine wq_putI q261_2 rfl rfl rfl rfl ?_
  rw [hpS]
  refine wq_aload_n q261_5 rfl ?_
  refine wq_getI q261_6 rfl rfl ?_
  refine wq_if_eq q261_9 (fun c9 => ?_) (fun c9 => ?_)
  · refine wq_iconst q261_22 ?_
    refine rI q261_23 rfl ?_
    exact hQ
  · exact absurd e26 c9
theorem c_rescape0 {x y : Int32} (h26 : hi 58 26 = 0) (hQ : Q (some (.int (-1))) (HP (up2 hi 58 0 0) hl f dr t)) : Ct G (0, 0) (d + 36) 276 [.ref 58, .int x, .int y] (HP hi hl f dr t) Q := by
  have e26 : hI (HP (up2 hi 58 0 0) hl f dr t) 58 26 = 0 := h26
  refine Ct_of (ls := [_, _, _, _, _, _, _, _, _]) m_276.1.2.2.1 (Nat.le_of_ble_eq_true rfl) rfl ?_
  refine wq_aload_n q276_0 rfl ?_
  refine wq_iconst q276_1 ?_
  refine wq_putI q276_2 rfl rfl rfl rfl ?_
  rw [hpS]
  refine wq_aload_n q276_5 rfl ?_
  refine wq_getI q276_6 rfl rfl ?_
  refine wq_if_eq q276_9 (fun c9 => ?_) (fun c9 => ?_)
  · refine wq_iconst q276_34 ?_
    refine rI q276_35 rfl ?_
    exact hQ
  · exact absurd e26 c9
theorem c_rfar0 {x y : Int32} (h27 : hi 58 27 = 0) (hQ : Q (some (.int (-1))) (HP (up2 hi 58 0 0) hl f dr t)) : Ct G (0, 0) (d + 35) 254 [.ref 58, .int x, .int y] (HP hi hl f dr t) Q := by
  have e26 : hI (HP (up2 hi 58 0 0) hl f dr t) 58 27 = 0 := h27
  refine Ct_of (ls := [_, _, _]) m_254.1.2.2.1 (Nat.le_of_ble_eq_true rfl) rfl ?_
  refine wq_aload_n q254_0 rfl ?_
  refine wq_iconst q254_1 ?_
  refine wq_putI q254_2 rfl rfl rfl rfl ?_
  rw [hpS]
  refine wq_aload_n q254_5 rfl ?_
  refine wq_iload_n q254_6 rfl ?_
  refine cV (As := [_]) q254_7 m_210 rfl rfl rfl ⟨by decide, rfl⟩ rfl (c_risEvent ?_)
  refine wq_if_eq q254_10 (fun c10 => ?_) (fun c10 => ?_)
  · refine wq_iconst q254_21 ?_
    refine rI q254_22 rfl ?_
    exact hQ
  · exact q00 c10 e26
theorem c_rwall0 {x y : Int32} (h27 : hi 58 27 = 0) (hQ : Q (some (.int (-1))) (HP (up2 hi 58 0 0) hl f dr t)) : Ct G (0, 0) (d + 35) 255 [.ref 58, .int x, .int y] (HP hi hl f dr t) Q := by
  have e26 : hI (HP (up2 hi 58 0 0) hl f dr t) 58 27 = 0 := h27
  refine Ct_of (ls := [_, _, _, _, _]) m_255.1.2.2.1 (Nat.le_of_ble_eq_true rfl) rfl ?_
  refine wq_aload_n q255_0 rfl ?_
  refine wq_iconst q255_1 ?_
  refine wq_putI q255_2 rfl rfl rfl rfl ?_
  rw [hpS]
  refine wq_aload_n q255_5 rfl ?_
  refine wq_iload_n q255_6 rfl ?_
  refine cV (As := [_]) q255_7 m_210 rfl rfl rfl ⟨by decide, rfl⟩ rfl (c_risEvent ?_)
  refine wq_if_eq q255_10 (fun c10 => ?_) (fun c10 => ?_)
  · refine wq_iconst q255_23 ?_
    refine rI q255_24 rfl ?_
    exact hQ
  · exact q00 c10 e26
theorem c_rlisten0 {x : Int32} (h27 : hi 58 27 = 0) (hQ : Q (some (.int (-1))) (HP (up2 hi 58 0 0) hl f dr t)) : Ct G (0, 0) (d + 36) 278 [.ref 58, .int x] (HP hi hl f dr t) Q := by
  have e26 : hI (HP (up2 hi 58 0 0) hl f dr t) 58 27 = 0 := h27
  refine Ct_of (ls := [_, _]) m_278.1.2.2.1 (Nat.le_of_ble_eq_true rfl) rfl ?_
  refine wq_aload_n q278_0 rfl ?_
  refine wq_iconst q278_1 ?_
  refine wq_putI q278_2 rfl rfl rfl rfl ?_
  rw [hpS]
  refine wq_aload_n q278_5 rfl ?_
  refine wq_iload_n q278_6 rfl ?_
  refine cV (As := [_]) q278_7 m_210 rfl rfl rfl ⟨by decide, rfl⟩ rfl (c_risEvent ?_)
  refine wq_if_eq q278_10 (fun c10 => ?_) (fun c10 => ?_)
  · refine wq_iconst q278_27 ?_
    refine rI q278_28 rfl ?_
    exact hQ
  · exact q00 c10 e26
theorem c_revent0 {x y : Int32} (h27 : hi 58 27 = 0) (hQ : Q (some (.int (-1))) (HP (up2 hi 58 0 0) hl f dr t)) : Ct G (0, 0) (d + 1) 225 [.ref 58, .int x, .int y] (HP hi hl f dr t) Q := by
  have e26 : hI (HP (up2 hi 58 0 0) hl f dr t) 58 27 = 0 := h27
  refine Ct_of (ls := [_, _, _]) m_225.1.2.2.1 (Nat.le_of_ble_eq_true rfl) rfl ?_
  refine wq_aload_n q225_0 rfl ?_
  refine wq_iconst q225_1 ?_
  refine wq_putI q225_2 rfl rfl rfl rfl ?_
  rw [hpS]
  refine wq_aload_n q225_5 rfl ?_
  refine wq_iload_n q225_6 rfl ?_
  refine cV (As := [_]) q225_7 m_210 rfl rfl rfl ⟨by decide, rfl⟩ rfl (c_risEvent ?_)
  refine wq_if_eq q225_10 (fun c10 => ?_) (fun c10 => ?_)
  · refine wq_iconst q225_25 ?_
    refine rI q225_26 rfl ?_
    exact hQ
  · exact q00 c10 e26
theorem c_rbelief0 {x : Int32} (h27 : hi 58 27 = 0) (hQ : Q (some (.int (-1))) (HP (up2 hi 58 0 0) hl f dr t)) : Ct G (0, 0) (d + 3) 273 [.ref 58, .int x] (HP hi hl f dr t) Q := by
  have e26 : hI (HP (up2 hi 58 0 0) hl f dr t) 58 27 = 0 := h27
  refine Ct_of (ls := [_, _, _, _, _, _, _, _, _, _]) m_273.1.2.2.1 (Nat.le_of_ble_eq_true rfl) rfl ?_
  refine wq_aload_n q273_0 rfl ?_
  refine wq_iconst q273_1 ?_
  refine wq_putI q273_2 rfl rfl rfl rfl ?_
  rw [hpS]
  refine wq_aload_n q273_5 rfl ?_
  refine wq_iload_n q273_6 rfl ?_
  refine cV (As := [_]) q273_7 m_210 rfl rfl rfl ⟨by decide, rfl⟩ rfl (c_risEvent ?_)
  refine wq_if_ne q273_10 (fun c10 => ?_) (fun c10 => ?_)
  · exact q00 c10 e26
  · refine wq_iconst q273_13 ?_
    refine rI q273_14 rfl ?_
    exact hQ
theorem c_rmirror0 {x y : Int32} (h26 : hi 58 26 = 0) (hQ : Q (some (.int 0)) (HP (up2 hi 58 0 0) hl f dr t)) : Ct G (0, 0) (d + 2) 236 [.ref 58, .int x, .int y] (HP hi hl f dr t) Q := by
  have e26 : hI (HP (up2 hi 58 0 0) hl f dr t) 58 26 = 0 := h26
  refine Ct_of (ls := [_, _, _]) m_236.1.2.2.1 (Nat.le_of_ble_eq_true rfl) rfl ?_
  refine wq_aload_n q236_0 rfl ?_
  refine wq_iconst q236_1 ?_
  refine wq_putI q236_2 rfl rfl rfl rfl ?_
  rw [hpS]
  refine wq_aload_n q236_5 rfl ?_
  refine wq_iload_n q236_6 rfl ?_
  refine cV (As := [_]) q236_7 m_209 rfl rfl rfl ⟨by decide, rfl⟩ rfl (c_risPrisoner ?_)
  refine wq_if_eq q236_10 (fun c10 => ?_) (fun c10 => ?_)
  · refine wq_iconst q236_41 ?_
    refine rI q236_42 rfl ?_
    exact hQ
  · exact q00 c10 e26
theorem c_rsea0 {x : Int32} (h26 : hi 58 26 = 0) (hQ : Q (some (.int (-1))) (HP (up2 hi 58 0 0) hl f dr t)) : Ct G (0, 0) (d + 38) 258 [.ref 58, .int x] (HP hi hl f dr t) Q := by
  have e26 : hI (HP (up2 hi 58 0 0) hl f dr t) 58 26 = 0 := h26
  refine Ct_of (ls := [_, _]) m_258.1.2.2.1 (Nat.le_of_ble_eq_true rfl) rfl ?_
  refine wq_aload_n q258_0 rfl ?_
  refine wq_iconst q258_1 ?_
  refine wq_putI q258_2 rfl rfl rfl rfl ?_
  rw [hpS]
  refine wq_aload_n q258_5 rfl ?_
  refine wq_iload_n q258_6 rfl ?_
  refine cV (As := [_]) q258_7 m_209 rfl rfl rfl ⟨by decide, rfl⟩ rfl (c_risPrisoner ?_)
  refine wq_if_eq q258_10 (fun c10 => ?_) (fun c10 => ?_)
  · refine wq_iconst q258_21 ?_
    refine rI q258_22 rfl ?_
    exact hQ
  · exact q00 c10 e26
theorem c_rcell0 {x y : Int32} (h26 : hi 58 26 = 0) (hQ : Q (some (.int (-1))) (HP (up2 hi 58 0 0) hl f dr t)) : Ct G (0, 0) (d + 1) 224 [.ref 58, .int x, .int y] (HP hi hl f dr t) Q := by
  have e26 : hI (HP (up2 hi 58 0 0) hl f dr t) 58 26 = 0 := h26
  refine Ct_of (ls := [_, _, _]) m_224.1.2.2.1 (Nat.le_of_ble_eq_true rfl) rfl ?_
  refine wq_aload_n q224_0 rfl ?_
  refine wq_iconst q224_1 ?_
  refine wq_putI q224_2 rfl rfl rfl rfl ?_
  rw [hpS]
  refine wq_aload_n q224_5 rfl ?_
  refine wq_iload_n q224_6 rfl ?_
  refine cV (As := [_]) q224_7 m_209 rfl rfl rfl ⟨by decide, rfl⟩ rfl (c_risPrisoner ?_)
  refine wq_if_eq q224_10 (fun c10 => ?_) (fun c10 => ?_)
  · refine wq_iconst q224_23 ?_
    refine rI q224_24 rfl ?_
    exact hQ
  · exact q00 c10 e26
theorem c_rtrust0 {x : Int32} (h26 : hi 58 26 = 0) (hQ : Q (some (.int (-1))) (HP (up2 hi 58 0 0) hl f dr t)) : Ct G (0, 0) (d + 1) 274 [.ref 58, .int x] (HP hi hl f dr t) Q := by
  have e26 : hI (HP (up2 hi 58 0 0) hl f dr t) 58 26 = 0 := h26
  refine Ct_of (ls := [_, _, _, _]) m_274.1.2.2.1 (Nat.le_of_ble_eq_true rfl) rfl ?_
  refine wq_aload_n q274_0 rfl ?_
  refine wq_iconst q274_1 ?_
  refine wq_putI q274_2 rfl rfl rfl rfl ?_
  rw [hpS]
  refine wq_aload_n q274_5 rfl ?_
  refine wq_iload_n q274_6 rfl ?_
  refine cV (As := [_]) q274_7 m_209 rfl rfl rfl ⟨by decide, rfl⟩ rfl (c_risPrisoner ?_)
  refine wq_if_ne q274_10 (fun c10 => ?_) (fun c10 => ?_)
  · exact q00 c10 e26
  · refine wq_iconst q274_13 ?_
    refine rI q274_14 rfl ?_
    exact hQ
theorem c_rsee0 {x : Int32} (h27 : hi 58 27 = 0) (hQ : Q (some (.int (-1))) (HP (up2 hi 58 0 0) hl f dr t)) : Ct G (0, 0) (d + 2) 230 [.ref 58, .int x] (HP hi hl f dr t) Q := by
  have e26 : hI (HP (up2 hi 58 0 0) hl f dr t) 58 27 = 0 := h27
  refine Ct_of (ls := [_, _]) m_230.1.2.2.1 (Nat.le_of_ble_eq_true rfl) rfl ?_
  refine wq_aload_n q230_0 rfl ?_
  refine wq_iconst q230_1 ?_
  refine wq_putI q230_2 rfl rfl rfl rfl ?_
  rw [hpS]
  refine wq_aload_n q230_5 rfl ?_
  refine wq_aload_n q230_6 rfl ?_
  refine wq_getR q230_7 rfl rfl rfl ?_
  refine wq_iload_n q230_10 rfl ?_
  refine cV (As := [_, _]) q230_11 m_229 rfl rfl rfl ⟨by decide, rfl⟩ rfl (c_rcanSee (Or.inl rfl) ?_)
  refine wq_if_ne q230_14 (fun c14 => ?_) (fun c14 => ?_)
  · have c := i10 c14
    rw [show up2 hi 58 0 0 58 27 = 0 from e26, inB_0] at c
    cases c
  · refine wq_iconst q230_17 ?_
    refine rI q230_18 rfl ?_
    exact hQ
theorem c_rtell0 (h26 : hi 58 26 = 0) (hQ : Q (some (.int (-1))) (HP (up2 hi 58 0 0) hl f dr t)) : Ct G (0, 0) (d + 37) 232 [.ref 58] (HP hi hl f dr t) Q := by
  have e26 : hI (HP (up2 hi 58 0 0) hl f dr t) 58 26 = 0 := h26
  refine Ct_of (ls := [_]) m_232.1.2.2.1 (Nat.le_of_ble_eq_true rfl) rfl ?_
  refine wq_aload_n q232_0 rfl ?_
  refine wq_iconst q232_1 ?_
  refine wq_putI q232_2 rfl rfl rfl rfl ?_
  rw [hpS]
  refine wq_aload_n q232_5 rfl ?_
  refine wq_aload_n q232_6 rfl ?_
  refine wq_getR q232_7 rfl rfl rfl ?_
  refine cV (As := [_]) q232_10 m_231 rfl rfl rfl ⟨by decide, rfl⟩ rfl (c_rcanTell (Or.inl rfl) ?_)
  refine wq_if_ne q232_13 (fun c13 => ?_) (fun c13 => ?_)
  · have c := i10 c13
    rw [show up2 hi 58 0 0 58 26 = 0 from e26, decide_eq_false (show ¬ (0 : Int32) < 0 by decide)] at c
    cases c
  · refine wq_iconst q232_16 ?_
    refine rI q232_17 rfl ?_
    exact hQ
theorem c_rmove0 {x y : Int32} (h26 : hi 58 26 = 0) (hQ : Q (some (.int (-1))) (HP (up2 hi 58 0 0) hl f dr t)) : Ct G (0, 0) (d + 2) 235 [.ref 58, .int x, .int y] (HP hi hl f dr t) Q := by
  have e26 : hI (HP (up2 hi 58 0 0) hl f dr t) 58 26 = 0 := h26
  refine Ct_of (ls := [_, _, _]) m_235.1.2.2.1 (Nat.le_of_ble_eq_true rfl) rfl ?_
  refine wq_aload_n q235_0 rfl ?_
  refine wq_iconst q235_1 ?_
  refine wq_putI q235_2 rfl rfl rfl rfl ?_
  rw [hpS]
  refine wq_aload_n q235_5 rfl ?_
  refine wq_iload_n q235_6 rfl ?_
  refine wq_iload_n q235_7 rfl ?_
  refine cV (As := [_, _]) q235_8 m_233 rfl rfl rfl ⟨by decide, rfl⟩ rfl (c_rcanMove ?_)
  refine wq_if_ne q235_11 (fun c11 => ?_) (fun c11 => ?_)
  · have c := i10 c11
    rw [show up2 hi 58 0 0 58 26 = 0 from e26, inB_0] at c
    cases c
  · refine wq_iconst q235_14 ?_
    refine rI q235_15 rfl ?_
    exact hQ
theorem c_rcanCode0 {r : Nat} (h26 : hi 58 26 = 0) (hQ : Q (some (.int 0)) (HP hi hl f dr t)) : Ct G (0, 0) (d + 1) 238 [.ref 58, .ref r] (HP hi hl f dr t) Q := by
  have e26 : hI (HP hi hl f dr t) 58 26 = 0 := h26
  refine Ct_of (ls := [_, _]) m_238.1.2.2.1 (Nat.le_of_ble_eq_true rfl) rfl ?_
  refine wq_aload_n q238_0 rfl ?_
  refine wq_getI q238_1 rfl rfl ?_
  refine wq_if_le q238_4 (fun c4 => ?_) (fun c4 => ?_)
  · refine wq_iconst q238_26 ?_
    refine rI q238_27 rfl ?_
    exact hQ
  · rw [e26] at c4
    exact absurd (by decide) c4
theorem c_rcode0 (h26 : hi 58 26 = 0) (hQ : Q (some (.int (-1))) (HP (up2 hi 58 0 0) hl f dr t)) : Ct G (0, 0) (d + 2) 240 [.ref 58] (HP hi hl f dr t) Q := by
  have e26 : hI (HP (up2 hi 58 0 0) hl f dr t) 58 26 = 0 := h26
  refine Ct_of (ls := [_]) m_240.1.2.2.1 (Nat.le_of_ble_eq_true rfl) rfl ?_
  refine wq_aload_n q240_0 rfl ?_
  refine wq_iconst q240_1 ?_
  refine wq_putI q240_2 rfl rfl rfl rfl ?_
  rw [hpS]
  refine wq_aload_n q240_5 rfl ?_
  refine wq_aload_n q240_6 rfl ?_
  refine wq_getR q240_7 rfl rfl rfl ?_
  refine cV (As := [_]) q240_10 m_238 rfl rfl rfl ⟨by decide, rfl⟩ rfl (c_rcanCode0 e26 ?_)
  refine wq_if_ne q240_13 (fun c13 => ?_) (fun c13 => ?_)
  · exact absurd rfl c13
  · refine wq_iconst q240_16 ?_
    refine rI q240_17 rfl ?_
    exact hQ
theorem c_rdays0 {x : Int32} (h26 : hi 58 26 = 0) (hQ : Q (some (.int (-1))) (HP (up2 hi 58 0 0) hl f dr t)) : Ct G (0, 0) (d + 2) 242 [.ref 58, .int x] (HP hi hl f dr t) Q := by
  have e26 : hI (HP (up2 hi 58 0 0) hl f dr t) 58 26 = 0 := h26
  refine Ct_of (ls := [_, _, _]) m_242.1.2.2.1 (Nat.le_of_ble_eq_true rfl) rfl ?_
  refine wq_aload_n q242_0 rfl ?_
  refine wq_iconst q242_1 ?_
  refine wq_putI q242_2 rfl rfl rfl rfl ?_
  rw [hpS]
  refine wq_aload_n q242_5 rfl ?_
  refine wq_iload_n q242_6 rfl ?_
  refine cV (As := [_]) q242_7 m_241 rfl rfl rfl ⟨by decide, rfl⟩ rfl (c_mayPass ?_)
  refine wq_if_ne q242_10 (fun c10 => ?_) (fun c10 => ?_)
  · have c := i10 c10
    rw [show up2 hi 58 0 0 58 26 = 0 from e26] at c
    unfold spB' at c
    rw [decide_eq_false (show ¬ (0 : Int32) < 0 by decide)] at c
    cases c
  · refine wq_iconst q242_13 ?_
    refine rI q242_14 rfl ?_
    exact hQ
theorem c_ryears0 {x : Int32} {sd : Int64} (h26 : hi 58 26 = 0) (hQ : Q (some (.int (-1))) (HP (up2 hi 58 0 0) hl f dr t)) : Ct G (0, 0) (d + 38) 245 [.ref 58, .int x, .long sd] (HP hi hl f dr t) Q := by
  have e26 : hI (HP (up2 hi 58 0 0) hl f dr t) 58 26 = 0 := h26
  refine Ct_of (ls := [_, _, _, _, _, _, _]) m_245.1.2.2.1 (Nat.le_of_ble_eq_true rfl) rfl ?_
  refine wq_aload_n q245_0 rfl ?_
  refine wq_iconst q245_1 ?_
  refine wq_putI q245_2 rfl rfl rfl rfl ?_
  rw [hpS]
  refine wq_aload_n q245_5 rfl ?_
  refine wq_iload_n q245_6 rfl ?_
  refine cV (As := [_]) q245_7 m_241 rfl rfl rfl ⟨by decide, rfl⟩ rfl (c_mayPass ?_)
  refine wq_if_ne q245_10 (fun c10 => ?_) (fun c10 => ?_)
  · have c := i10 c10
    rw [show up2 hi 58 0 0 58 26 = 0 from e26] at c
    unfold spB' at c
    rw [decide_eq_false (show ¬ (0 : Int32) < 0 by decide)] at c
    cases c
  · refine wq_iconst q245_13 ?_
    refine rI q245_14 rfl ?_
    exact hQ
theorem c_rrun0 {x y : Int32} (h26 : hi 58 26 = 0) (hQ : Q (some (.int (-1000000))) (HP (up2 hi 58 0 0) hl f dr t)) : Ct G (0, 0) (d + 38) 252 [.ref 58, .int x, .int y] (HP hi hl f dr t) Q := by
  have e26 : hI (HP (up2 hi 58 0 0) hl f dr t) 58 26 = 0 := h26
  refine Ct_of (ls := [_, _, _, _]) m_252.1.2.2.1 (Nat.le_of_ble_eq_true rfl) rfl ?_
  refine wq_aload_n q252_0 rfl ?_
  refine wq_iconst q252_1 ?_
  refine wq_putI q252_2 rfl rfl rfl rfl ?_
  rw [hpS]
  refine wq_aload_n q252_5 rfl ?_
  refine wq_iload_n q252_6 rfl ?_
  refine cV (As := [_]) q252_7 m_248 rfl rfl rfl ⟨by decide, rfl⟩ rfl (c_risPlan ?_)
  refine wq_if_eq q252_10 (fun c10 => ?_) (fun c10 => ?_)
  · refine wq_ldc_w q252_30 ?_
    refine rI q252_33 rfl ?_
    exact hQ
  · refine wq_aload_n q252_13 rfl ?_
    refine wq_getI q252_14 rfl rfl ?_
    refine wq_if_eq q252_17 (fun c17 => ?_) (fun c17 => ?_)
    · refine wq_ldc_w q252_30 ?_
      refine rI q252_33 rfl ?_
      exact hQ
    · exact absurd e26 c17
theorem c_rperform0 {x : Int32} (h26 : hi 58 26 = 0) (hQ : Q (some (.int (-1))) (HP (up2 hi 58 0 0) hl f dr t)) : Ct G (0, 0) (d + 38) 253 [.ref 58, .int x] (HP hi hl f dr t) Q := by
  have e26 : hI (HP (up2 hi 58 0 0) hl f dr t) 58 26 = 0 := h26
  refine Ct_of (ls := [_, _, _]) m_253.1.2.2.1 (Nat.le_of_ble_eq_true rfl) rfl ?_
  refine wq_aload_n q253_0 rfl ?_
  refine wq_iconst q253_1 ?_
  refine wq_putI q253_2 rfl rfl rfl rfl ?_
  rw [hpS]
  refine wq_aload_n q253_5 rfl ?_
  refine wq_iload_n q253_6 rfl ?_
  refine cV (As := [_]) q253_7 m_248 rfl rfl rfl ⟨by decide, rfl⟩ rfl (c_risPlan ?_)
  refine wq_if_eq q253_10 (fun c10 => ?_) (fun c10 => ?_)
  · refine wq_iconst q253_20 ?_
    refine rI q253_21 rfl ?_
    exact hQ
  · refine wq_aload_n q253_13 rfl ?_
    refine wq_getI q253_14 rfl rfl ?_
    refine wq_if_ne q253_17 (fun c17 => ?_) (fun c17 => ?_)
    · exact absurd e26 c17
    · refine wq_iconst q253_20 ?_
      refine rI q253_21 rfl ?_
      exact hQ
theorem c_rtruths0 {x y : Int32} (h26 : hi 58 26 = 0) (hQ : Q (some (.int (-1))) (HP (up2 hi 58 0 0) hl f dr t)) : Ct G (0, 0) (d + 2) 268 [.ref 58, .int x, .int y] (HP hi hl f dr t) Q := by
  have e26 : hI (HP (up2 hi 58 0 0) hl f dr t) 58 26 = 0 := h26
  refine Ct_of (ls := [_, _, _, _, _]) m_268.1.2.2.1 (Nat.le_of_ble_eq_true rfl) rfl ?_
  refine wq_aload_n q268_0 rfl ?_
  refine wq_iconst q268_1 ?_
  refine wq_putI q268_2 rfl rfl rfl rfl ?_
  rw [hpS]
  refine wq_aload_n q268_5 rfl ?_
  refine wq_iload_n q268_6 rfl ?_
  refine cV (As := [_]) q268_7 m_267 rfl rfl rfl ⟨by decide, rfl⟩ rfl (c_mayAsk ?_)
  refine wq_if_eq q268_10 (fun c10 => ?_) (fun c10 => ?_)
  · refine wq_iconst q268_18 ?_
    refine rI q268_19 rfl ?_
    exact hQ
  · have c := i10 c10
    rw [show up2 hi 58 0 0 58 26 = 0 from e26] at c
    unfold cdB at c
    rw [decide_eq_false (show ¬ (0 : Int32) < 0 by decide)] at c
    cases c
theorem c_rsure0 {x y : Int32} (h26 : hi 58 26 = 0) (hQ : Q (some (.int (-1))) (HP (up2 hi 58 0 0) hl f dr t)) : Ct G (0, 0) (d + 3) 269 [.ref 58, .int x, .int y] (HP hi hl f dr t) Q := by
  have e26 : hI (HP (up2 hi 58 0 0) hl f dr t) 58 26 = 0 := h26
  refine Ct_of (ls := [_, _, _, _, _, _]) m_269.1.2.2.1 (Nat.le_of_ble_eq_true rfl) rfl ?_
  refine wq_aload_n q269_0 rfl ?_
  refine wq_iconst q269_1 ?_
  refine wq_putI q269_2 rfl rfl rfl rfl ?_
  rw [hpS]
  refine wq_aload_n q269_5 rfl ?_
  refine wq_iload_n q269_6 rfl ?_
  refine cV (As := [_]) q269_7 m_267 rfl rfl rfl ⟨by decide, rfl⟩ rfl (c_mayAsk ?_)
  refine wq_if_eq q269_10 (fun c10 => ?_) (fun c10 => ?_)
  · refine wq_iconst q269_32 ?_
    refine rI q269_33 rfl ?_
    exact hQ
  · have c := i10 c10
    rw [show up2 hi 58 0 0 58 26 = 0 from e26] at c
    unfold cdB at c
    rw [decide_eq_false (show ¬ (0 : Int32) < 0 by decide)] at c
    cases c
theorem c_rask0 {x : Int32} (h26 : hi 58 26 = 0) (hQ : Q (some (.int (-1))) (HP (up2 hi 58 0 0) hl f dr t)) : Ct G (0, 0) (d + 3) 270 [.ref 58, .int x] (HP hi hl f dr t) Q := by
  have e26 : hI (HP (up2 hi 58 0 0) hl f dr t) 58 26 = 0 := h26
  refine Ct_of (ls := [_, _, _, _, _, _, _]) m_270.1.2.2.1 (Nat.le_of_ble_eq_true rfl) rfl ?_
  refine wq_aload_n q270_0 rfl ?_
  refine wq_iconst q270_1 ?_
  refine wq_putI q270_2 rfl rfl rfl rfl ?_
  rw [hpS]
  refine wq_aload_n q270_5 rfl ?_
  refine wq_iload_n q270_6 rfl ?_
  refine cV (As := [_]) q270_7 m_267 rfl rfl rfl ⟨by decide, rfl⟩ rfl (c_mayAsk ?_)
  refine wq_if_eq q270_10 (fun c10 => ?_) (fun c10 => ?_)
  · refine wq_iconst q270_22 ?_
    refine rI q270_23 rfl ?_
    exact hQ
  · have c := i10 c10
    rw [show up2 hi 58 0 0 58 26 = 0 from e26] at c
    unfold cdB at c
    rw [decide_eq_false (show ¬ (0 : Int32) < 0 by decide)] at c
    cases c
theorem c_rcanBuy0 {x y : Int32} (h26 : hi 58 26 = 0) (hQ : Q (some (.int 0)) (HP hi hl f dr t)) : Ct G (0, 0) (d + 3) 285 [.ref 58, .int x, .int y] (HP hi hl f dr t) Q := by
  refine Ct_of (ls := [_, _, _]) m_285.1.2.2.1 (Nat.le_of_ble_eq_true rfl) rfl ?_
  refine wq_aload_n q285_0 rfl ?_
  refine wq_iload_n q285_1 rfl ?_
  refine wq_iload_n q285_2 rfl ?_
  refine cV (As := [_, _]) q285_3 m_233 rfl rfl rfl ⟨by decide, rfl⟩ rfl (c_rcanMove ?_)
  refine wq_if_eq q285_6 (fun c6 => ?_) (fun c6 => ?_)
  · refine wq_iconst q285_37 ?_
    refine rI q285_38 rfl ?_
    exact hQ
  · have c := i10 c6
    rw [h26, inB_0] at c
    cases c
theorem c_rbuys0 {o p x y : Int32} (h26 : hi 58 26 = 0) (hQ : Q (some (.int (-1000000))) (HP (up2 hi 58 0 0) hl f dr t)) : Ct G (0, 0) (d + 37) 287 [.ref 58, .int o, .int p, .int x, .int y] (HP hi hl f dr t) Q := by
  have e26 : hI (HP (up2 hi 58 0 0) hl f dr t) 58 26 = 0 := h26
  refine Ct_of (ls := [_, _, _, _, _]) m_287.1.2.2.1 (Nat.le_of_ble_eq_true rfl) rfl ?_
  refine wq_aload_n q287_0 rfl ?_
  refine wq_iconst q287_1 ?_
  refine wq_putI q287_2 rfl rfl rfl rfl ?_
  rw [hpS]
  refine wq_aload_n q287_5 rfl ?_
  refine wq_iload_n q287_6 rfl ?_
  refine wq_iload_n q287_7 rfl ?_
  refine cV (As := [_, _]) q287_8 m_285 rfl rfl rfl ⟨by decide, rfl⟩ rfl (c_rcanBuy0 e26 ?_)
  refine wq_if_eq q287_11 (fun c11 => ?_) (fun c11 => ?_)
  · refine wq_ldc_w q287_47 ?_
    refine rI q287_50 rfl ?_
    exact hQ
  · exact absurd rfl c11
theorem c_rrests0 {o p x : Int32} (h26 : hi 58 26 = 0) (hQ : Q (some (.int (-1))) (HP (up2 hi 58 0 0) hl f dr t)) : Ct G (0, 0) (d + 37) 288 [.ref 58, .int o, .int p, .int x] (HP hi hl f dr t) Q := by
  have e26 : hI (HP (up2 hi 58 0 0) hl f dr t) 58 26 = 0 := h26
  refine Ct_of (ls := [_, _, _, _, _, _, _, _]) m_288.1.2.2.1 (Nat.le_of_ble_eq_true rfl) rfl ?_
  refine wq_aload_n q288_0 rfl ?_
  refine wq_iconst q288_1 ?_
  refine wq_putI q288_2 rfl rfl rfl rfl ?_
  rw [hpS]
  refine wq_aload_n q288_5 rfl ?_
  refine wq_iload_n q288_6 rfl ?_
  refine wq_iload_n q288_7 rfl ?_
  refine cV (As := [_, _]) q288_8 m_285 rfl rfl rfl ⟨by decide, rfl⟩ rfl (c_rcanBuy0 e26 ?_)
  refine wq_if_eq q288_11 (fun c11 => ?_) (fun c11 => ?_)
  · refine wq_iconst q288_19 ?_
    refine rI q288_20 rfl ?_
    exact hQ
  · exact absurd rfl c11
end REFNOFORT
