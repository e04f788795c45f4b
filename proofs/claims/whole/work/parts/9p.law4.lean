/-! THE LAW'S ARM of prisoner -/
section LAWP
variable {G : ph_G} {B u : Nat × Nat} {d I f dr t n ev wi nx kp dy sa L lc pc : Nat} {l5 l6 : Option Value} {hi : Nat → Nat → Int32} {hl : Nat → Nat → Int64} {Q : Option Value → ph_H → Prop}
theorem lg_self (x : Int64) : lg_cmp x x = 0 := by
  unfold lg_cmp
  simp
theorem c_Lpris_ok' {P w : Int32} {p : Nat} (hf : Fok f) (hn : n ≤ 7) (hc : hi f 3 = nI n) (hp : p < n) (ep : P = nI p) (hw : inB w 7 = true) (hQ : Q (some (.int 0)) (HP hi (up2 hl 79 0 (prV' hi f n p w).toInt64) f dr t)) : CtP G (0, 0) (d + 2) [.ref 0, .int P, .int w, .ref 79] (HP hi hl f dr t) Q := by
  subst ep
  exact c_Lpris_ok hf hn hc hp hw hQ
theorem lc_425 (hN : gN G ≤ 3072) (hI : I + 6 ≤ gN G) (h : JA hi hi f dr n ev wi nx kp dy sa L lc pc) (hu : u.1 + 1 ≤ B.1 ∧ u.2 + 6 ≤ B.2) (K : LK G B d I u Q) : wq G B (d + 41) 326 425 (lwL I l5 l6) [] u (HP hi hl f dr t) Q := by
  obtain ⟨hf, hn7, hev6, e3, e4, e26, e27, e0⟩ := h.nn
  refine wq_aload_n q326_425 rfl ?_
  refine wq_aload_n q326_426 rfl ?_
  refine wq_iload q326_427 rfl ?_
  refine wq_iconst q326_429 ?_
  refine wq_iadd q326_430 ?_
  refine wq_scr q326_431 (sc_in 1 rfl (by decide) hI hN) ?_
  refine wq_aload_n q326_432 rfl ?_
  refine wq_iload q326_433 rfl ?_
  refine wq_iconst q326_435 ?_
  refine wq_iadd q326_436 ?_
  refine wq_scr q326_437 (sc_in 2 rfl (by decide) hI hN) ?_
  refine wq_aload_n q326_438 rfl ?_
  by_cases hin : inB (gX G (nI I + 1).toNatClampNeg) (hi f 3) = true ∧ inB (gX G (nI I + 2).toNatClampNeg) 7 = true
  · have hin' := hin
    rw [e3] at hin'
    obtain ⟨j, hj, ej⟩ := inB_N (m := n) (by omega) hin'.1
    obtain ⟨lw, sz, hF, hO, hk, hn2, hev1⟩ := h.fort (by omega)
    obtain ⟨hw, hkn, hrk, h33, h32, hdy⟩ := h.rw
    have hr : ∀ (hl' : Nat → Nat → Int64) (Q' : Option Value → ph_H → Prop), Q' (some (.int (prV' hi f n j (gX G (nI I + 2).toNatClampNeg)))) (HP (up2 hi 58 0 0) hl' f dr t) → Ct G (0, 0) (d + 40) 223 [.ref 58, .int (gX G (nI I + 1).toNatClampNeg), .int (gX G (nI I + 2).toNatClampNeg)] (HP hi hl' f dr t) Q' := by
      intro hl' Q' hq
      refine c_rprisoner (d := d + 39) hF hw hkn (fun z => absurd hin' z) (fun j' hj' ej' _ => ?_)
      obtain rfl := nI_j ej' ej hj' hj (by omega)
      exact hq
    have hu0 : u.1 ≤ B.1 ∧ u.2 ≤ B.2 := by omega
    refine wq_callP (d := d + 40) (B' := (0, 0)) (As := [_, _, _, _]) (rest := []) rfl rfl ⟨hu0.1, hu0.2, Nat.zero_le _⟩ (c_Lpris_ok' (d := d + 38) hf hn7 e3 hj ej hin.2 ?_)
    refine wq_istore (ls' := lwL I (some (.int 0)) l6) q326_442 rfl ?_
    refine wq_aload_n q326_444 rfl ?_
    refine wq_aload_n q326_445 rfl ?_
    refine wq_iload q326_446 rfl ?_
    refine wq_iconst q326_448 ?_
    refine wq_iadd q326_449 ?_
    refine wq_scr q326_450 (sc_in 1 rfl (by decide) hI hN) ?_
    refine wq_aload_n q326_451 rfl ?_
    refine wq_iload q326_452 rfl ?_
    refine wq_iconst q326_454 ?_
    refine wq_iadd q326_455 ?_
    refine wq_scr q326_456 (sc_in 2 rfl (by decide) hI hN) ?_
    refine cL (As := [_, _]) (u := (u.1 + 0, u.2 + 0)) q326_457 m_223 rfl rfl rfl ⟨by decide, rfl⟩ hu0 rfl (hr _ _ ?_)
    refine wq_istore (ls' := lwL I (some (.int 0)) (some (.int (prV' hi f n j (gX G (nI I + 2).toNatClampNeg))))) q326_460 rfl ?_
    refine wq_aload_n q326_462 rfl ?_
    refine cL (As := []) (u := (u.1 + 0, u.2 + 0)) q326_463 m_169 rfl rfl rfl ⟨by decide, rfl⟩ hu0 rfl (c_rthrown ?_)
    have e58 : up2 hi 58 0 0 58 0 = 0 := by rw [up2_s, vu_s]
    rw [e58]
    refine wq_iload q326_466 rfl ?_
    refine wq_icmp_eq q326_468 (fun _ => ?_) (fun c => absurd rfl c)
    refine wq_iload q326_473 rfl ?_
    refine wq_if_ne q326_475 (fun c => absurd rfl c) (fun _ => ?_)
    refine wq_aload_n q326_478 rfl ?_
    refine wq_iconst q326_479 ?_
    refine wq_lald q326_480 rfl (nI_in' (j := 0) (n := 1) (by decide) (by decide)) ?_
    refine wq_iload q326_481 rfl ?_
    refine wq_i2l q326_483 ?_
    refine wq_lcmp q326_484 ?_
    have ec : lg_cmp (hL (HP (up2 hi 58 0 0) (up2 hl 79 0 (prV' hi f n j (gX G (nI I + 2).toNatClampNeg)).toInt64) f dr t) 79 (0 : Int32).toNatClampNeg) (prV' hi f n j (gX G (nI I + 2).toNatClampNeg)).toInt64 = 0 := by
      show lg_cmp (up2 hl 79 0 (prV' hi f n j (gX G (nI I + 2).toNatClampNeg)).toInt64 79 0) _ = 0
      rw [up2_s, vu_s]
      exact lg_self _
    refine wq_if_eq q326_485 (fun _ => ?_) (fun c => absurd ec c)
    refine wq_goto q326_490 ?_
    exact K _ _ _ _ _ _ _ _ (Nat.le_succ _) (Nat.le_add_right _ _) (h.qr rs0).toJ
  · have hin' := hin
    rw [e3] at hin'
    have hr : ∀ (Q' : Option Value → ph_H → Prop), Q' (some (.int 0)) (HP (up2 hi 58 0 1) hl f dr t) → Ct G (0, 0) (d + 40) 223 [.ref 58, .int (gX G (nI I + 1).toNatClampNeg), .int (gX G (nI I + 2).toNatClampNeg)] (HP hi hl f dr t) Q' := by
      intro Q' hq
      rcases Nat.eq_zero_or_pos n with hn | hn
      · obtain ⟨z3, z4, z26, z27, ze⟩ := h.none hn
        exact c_rprisoner0 (d := d + 39) z26 hq
      · obtain ⟨lw, sz, hF, hO, hk, hn2, hev1⟩ := h.fort hn
        obtain ⟨hw, hkn, hrk, h33, h32, hdy⟩ := h.rw
        exact c_rprisoner (d := d + 39) hF hw hkn (fun _ => hq) (fun j hj ej hw7 => absurd ⟨by rw [ej]; exact inB_y hj (by omega), hw7⟩ hin')
    refine wq_callP (d := d + 40) (B' := (1, 6)) (As := [_, _, _, _]) (rest := []) rfl rfl ⟨hu.1, hu.2, Nat.zero_le _⟩ (c_Lpris_no (d := d + 33) hf hin ?_)
    refine wq_istore (ls' := lwL I (some (.int 1)) l6) q326_442 rfl ?_
    refine wq_aload_n q326_444 rfl ?_
    refine wq_aload_n q326_445 rfl ?_
    refine wq_iload q326_446 rfl ?_
    refine wq_iconst q326_448 ?_
    refine wq_iadd q326_449 ?_
    refine wq_scr q326_450 (sc_in 1 rfl (by decide) hI hN) ?_
    refine wq_aload_n q326_451 rfl ?_
    refine wq_iload q326_452 rfl ?_
    refine wq_iconst q326_454 ?_
    refine wq_iadd q326_455 ?_
    refine wq_scr q326_456 (sc_in 2 rfl (by decide) hI hN) ?_
    refine cL (As := [_, _]) (u := (u.1 + 1, u.2 + 6)) q326_457 m_223 rfl rfl rfl ⟨by decide, rfl⟩ hu rfl (hr _ ?_)
    refine wq_istore (ls' := lwL I (some (.int 1)) (some (.int 0))) q326_460 rfl ?_
    refine wq_aload_n q326_462 rfl ?_
    refine cL (As := []) (u := (u.1 + 1, u.2 + 6)) q326_463 m_169 rfl rfl rfl ⟨by decide, rfl⟩ hu rfl (c_rthrown ?_)
    have e58 : up2 hi 58 0 1 58 0 = 1 := by rw [up2_s, vu_s]
    rw [e58]
    refine wq_iload q326_466 rfl ?_
    refine wq_icmp_eq q326_468 (fun _ => ?_) (fun c => absurd rfl c)
    refine wq_iload q326_473 rfl ?_
    refine wq_if_ne q326_475 (fun _ => ?_) (fun c => absurd c (by decide))
    refine wq_goto q326_490 ?_
    exact K _ _ _ _ _ _ _ _ (Nat.le_refl _) (Nat.le_refl _) (h.qr rs0).toJ
end LAWP
