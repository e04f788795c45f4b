/-! THE LAW'S ARMS -/
abbrev lwL (I : Nat) (l5 l6 : Option Value) : List (Option Value) := [some (.ref (1000 + 9)), some (.ref 0), some (.ref 58), some (.ref 79), some (.int (nI I)), l5, l6]
/-- what holds behind a call: the law goes on -/
def LK (G : ph_G) (B : Nat × Nat) (d I : Nat) (u : Nat × Nat) (Q : Option Value → ph_H → Prop) : Prop := ∀ (l5 l6 : Option Value) (u' : Nat × Nat) (hi : Nat → Nat → Int32) (hl : Nat → Nat → Int64) (f dr t : Nat), u'.1 ≤ u.1 + 1 → u'.2 ≤ u.2 + 6 → J hi f dr → wq G B (d + 41) 326 1712 (lwL I l5 l6) [] u' (HP hi hl f dr t) Q
theorem sc_in {G : ph_G} {I : Nat} (j : Nat) {c : Int32} (e : c = nI j) (hj : j < 6) (hI : I + 6 ≤ gN G) (hN : gN G ≤ 3072) : vp_in (nI I + c) (gN G) := by
  subst e
  rw [nI_add]
  exact vp_in_nI (by omega) (by omega)
theorem cL {G : ph_G} {B u : Nat × Nat} {d pc npc : Nat} {ls : List (Option Value)} {st : List Value} {h : ph_H} {Q : Option Value → ph_H → Prop} {x wi k' ci ni n ii si b cb nb : Nat} {As rest : List Value} (q : qD 326 pc (.invokevirtual x) 3 npc ∧ qI 326 x k' wi) (hm : mI k' ci ni n ii si) (hst : As.reverse ++ .ref b :: rest = st) (hn : As.length = n) (hb : (hS h)[b]? = some (cb, nb)) (hcb : cb < 12 ∧ vC cb = (mN k').cls) (hu : u.1 ≤ B.1 ∧ u.2 ≤ B.2) (hf : ((rest.map (fun v : Value => v.category)).sum).ble 8 = true)
    (kk : Ct G (0, 0) (d + 40) k' (.ref b :: As) h (fun r h' => wq G B (d + 41) 326 npc ls (ph_k r rest) u h' Q)) : wq G B (d + 41) 326 pc ls st u h Q := by
  refine wq_callV (d := d + 40) (B' := (0, 0)) (As := As) (rest := rest) q hm hst hn hb hcb ⟨hu.1, hu.2, Nat.le_of_ble_eq_true hf⟩ ?_
  simp only [ph_k_eq]
  exact kk
section LAW
variable {G : ph_G} {B u : Nat × Nat} {d I f dr t n ev wi nx kp dy sa L lc pc : Nat} {l5 l6 : Option Value} {hi : Nat → Nat → Int32} {hl : Nat → Nat → Int64} {Q : Option Value → ph_H → Prop}
theorem lc_252 (hN : gN G ≤ 3072) (hI : I + 6 ≤ gN G) (h : JA hi hi f dr n ev wi nx kp dy sa L lc pc) (hu : u.1 ≤ B.1 ∧ u.2 ≤ B.2) (K : LK G B d I u Q) : wq G B (d + 41) 326 252 (lwL I l5 l6) [] u (HP hi hl f dr t) Q := by
  refine wq_aload_n q326_252 rfl ?_
  refine wq_aload_n q326_253 rfl ?_
  refine wq_iload q326_254 rfl ?_
  refine wq_iconst q326_256 ?_
  refine wq_iadd q326_257 ?_
  refine wq_scr q326_258 (sc_in 1 rfl (by decide) hI hN) ?_
  refine wq_aload_n q326_259 rfl ?_
  refine wq_iload q326_260 rfl ?_
  refine wq_iconst q326_262 ?_
  refine wq_iadd q326_263 ?_
  refine wq_scr q326_264 (sc_in 2 rfl (by decide) hI hN) ?_
  refine wq_aload_n q326_265 rfl ?_
  refine wq_iload q326_266 rfl ?_
  refine wq_iconst q326_268 ?_
  refine wq_iadd q326_269 ?_
  refine wq_scr q326_270 (sc_in 3 rfl (by decide) hI hN) ?_
  refine wq_aload_n q326_271 rfl ?_
  refine wq_iload q326_272 rfl ?_
  refine wq_iconst q326_274 ?_
  refine wq_iadd q326_275 ?_
  refine wq_scr q326_276 (sc_in 4 rfl (by decide) hI hN) ?_
  refine wq_aload_n q326_277 rfl ?_
  refine wq_iload q326_278 rfl ?_
  refine wq_iconst q326_280 ?_
  refine wq_iadd q326_281 ?_
  refine wq_scr q326_282 (sc_in 5 rfl (by decide) hI hN) ?_
  refine cL (As := [_, _, _, _, _]) q326_283 m_87 rfl rfl rfl ⟨by decide, rfl⟩ hu rfl (s_feed h _ (fun r hi1 hl1 f1 dr1 t1 ha => ?_))
  refine wq_aload_n q326_286 rfl ?_
  refine wq_aload_n q326_287 rfl ?_
  refine wq_iload q326_288 rfl ?_
  refine wq_iconst q326_290 ?_
  refine wq_iadd q326_291 ?_
  refine wq_scr q326_292 (sc_in 1 rfl (by decide) hI hN) ?_
  refine wq_aload_n q326_293 rfl ?_
  refine wq_iload q326_294 rfl ?_
  refine wq_iconst q326_296 ?_
  refine wq_iadd q326_297 ?_
  refine wq_scr q326_298 (sc_in 2 rfl (by decide) hI hN) ?_
  refine wq_aload_n q326_299 rfl ?_
  refine wq_iload q326_300 rfl ?_
  refine wq_iconst q326_302 ?_
  refine wq_iadd q326_303 ?_
  refine wq_scr q326_304 (sc_in 3 rfl (by decide) hI hN) ?_
  refine wq_aload_n q326_305 rfl ?_
  refine wq_iload q326_306 rfl ?_
  refine wq_iconst q326_308 ?_
  refine wq_iadd q326_309 ?_
  refine wq_scr q326_310 (sc_in 4 rfl (by decide) hI hN) ?_
  refine wq_aload_n q326_311 rfl ?_
  refine wq_iload q326_312 rfl ?_
  refine wq_iconst q326_314 ?_
  refine wq_iadd q326_315 ?_
  refine wq_scr q326_316 (sc_in 5 rfl (by decide) hI hN) ?_
  refine cL (As := [_, _, _, _, _]) q326_317 m_175 rfl rfl rfl ⟨by decide, rfl⟩ hu rfl (ha _ (fun hi2 hl2 t2 hJ => ?_))
  refine wq_icmp_eq q326_320 (fun _ => ?_) (fun c => absurd rfl c)
  exact K _ _ _ _ _ _ _ _ (Nat.le_succ _) (Nat.le_add_right _ _) hJ
theorem lc_325 (hN : gN G ≤ 3072) (hI : I + 6 ≤ gN G) (h : JA hi hi f dr n ev wi nx kp dy sa L lc pc) (hu : u.1 ≤ B.1 ∧ u.2 ≤ B.2) (K : LK G B d I u Q) : wq G B (d + 41) 326 325 (lwL I l5 l6) [] u (HP hi hl f dr t) Q := by
  refine wq_aload_n q326_325 rfl ?_
  refine wq_aload_n q326_326 rfl ?_
  refine wq_iload q326_327 rfl ?_
  refine wq_iconst q326_329 ?_
  refine wq_iadd q326_330 ?_
  refine wq_scr q326_331 (sc_in 1 rfl (by decide) hI hN) ?_
  refine cL (As := [_]) q326_332 m_88 rfl rfl rfl ⟨by decide, rfl⟩ hu rfl (s_end h _ (fun r hi1 hl1 f1 dr1 t1 ha => ?_))
  refine wq_aload_n q326_335 rfl ?_
  refine wq_aload_n q326_336 rfl ?_
  refine wq_iload q326_337 rfl ?_
  refine wq_iconst q326_339 ?_
  refine wq_iadd q326_340 ?_
  refine wq_scr q326_341 (sc_in 1 rfl (by decide) hI hN) ?_
  refine cL (As := [_]) q326_342 m_176 rfl rfl rfl ⟨by decide, rfl⟩ hu rfl (ha _ (fun hi2 hl2 t2 hJ => ?_))
  refine wq_icmp_eq q326_345 (fun _ => ?_) (fun c => absurd rfl c)
  exact K _ _ _ _ _ _ _ _ (Nat.le_succ _) (Nat.le_add_right _ _) hJ
theorem lc_350 (hN : gN G ≤ 3072) (hI : I + 6 ≤ gN G) (h : JA hi hi f dr n ev wi nx kp dy sa L lc pc) (hu : u.1 ≤ B.1 ∧ u.2 ≤ B.2) (K : LK G B d I u Q) : wq G B (d + 41) 326 350 (lwL I l5 l6) [] u (HP hi hl f dr t) Q := by
  refine wq_aload_n q326_350 rfl ?_
  refine wq_aload_n q326_351 rfl ?_
  refine wq_iload q326_352 rfl ?_
  refine wq_iconst q326_354 ?_
  refine wq_iadd q326_355 ?_
  refine wq_scr q326_356 (sc_in 1 rfl (by decide) hI hN) ?_
  refine cL (As := [_]) q326_357 m_89 rfl rfl rfl ⟨by decide, rfl⟩ hu rfl (s_fault h _ (fun r hi1 hl1 f1 dr1 t1 ha => ?_))
  refine wq_aload_n q326_360 rfl ?_
  refine wq_aload_n q326_361 rfl ?_
  refine wq_iload q326_362 rfl ?_
  refine wq_iconst q326_364 ?_
  refine wq_iadd q326_365 ?_
  refine wq_scr q326_366 (sc_in 1 rfl (by decide) hI hN) ?_
  refine cL (As := [_]) q326_367 m_206 rfl rfl rfl ⟨by decide, rfl⟩ hu rfl (ha _ (fun hi2 hl2 t2 hJ => ?_))
  refine wq_icmp_eq q326_370 (fun _ => ?_) (fun c => absurd rfl c)
  exact K _ _ _ _ _ _ _ _ (Nat.le_succ _) (Nat.le_add_right _ _) hJ
theorem lc_375 (hN : gN G ≤ 3072) (hI : I + 6 ≤ gN G) (h : JA hi hi f dr n ev wi nx kp dy sa L lc pc) (hu : u.1 ≤ B.1 ∧ u.2 ≤ B.2) (K : LK G B d I u Q) : wq G B (d + 41) 326 375 (lwL I l5 l6) [] u (HP hi hl f dr t) Q := by
  refine wq_aload_n q326_375 rfl ?_
  refine wq_aload_n q326_376 rfl ?_
  refine wq_iload q326_377 rfl ?_
  refine wq_iconst q326_379 ?_
  refine wq_iadd q326_380 ?_
  refine wq_scr q326_381 (sc_in 1 rfl (by decide) hI hN) ?_
  refine cL (As := [_]) q326_382 m_90 rfl rfl rfl ⟨by decide, rfl⟩ hu rfl (s_text h _ (fun r hi1 hl1 f1 dr1 t1 ha => ?_))
  refine wq_aload_n q326_385 rfl ?_
  refine wq_aload_n q326_386 rfl ?_
  refine wq_iload q326_387 rfl ?_
  refine wq_iconst q326_389 ?_
  refine wq_iadd q326_390 ?_
  refine wq_scr q326_391 (sc_in 1 rfl (by decide) hI hN) ?_
  refine cL (As := [_]) q326_392 m_207 rfl rfl rfl ⟨by decide, rfl⟩ hu rfl (ha _ (fun hi2 hl2 t2 hJ => ?_))
  refine wq_icmp_eq q326_395 (fun _ => ?_) (fun c => absurd rfl c)
  exact K _ _ _ _ _ _ _ _ (Nat.le_succ _) (Nat.le_add_right _ _) hJ
theorem lc_400 (hN : gN G ≤ 3072) (hI : I + 6 ≤ gN G) (h : JA hi hi f dr n ev wi nx kp dy sa L lc pc) (hu : u.1 ≤ B.1 ∧ u.2 ≤ B.2) (K : LK G B d I u Q) : wq G B (d + 41) 326 400 (lwL I l5 l6) [] u (HP hi hl f dr t) Q := by
  refine wq_aload_n q326_400 rfl ?_
  refine wq_aload_n q326_401 rfl ?_
  refine wq_iload q326_402 rfl ?_
  refine wq_iconst q326_404 ?_
  refine wq_iadd q326_405 ?_
  refine wq_scr q326_406 (sc_in 1 rfl (by decide) hI hN) ?_
  refine cL (As := [_]) q326_407 m_94 rfl rfl rfl ⟨by decide, rfl⟩ hu rfl (s_rule h _ (fun r hi1 hl1 f1 dr1 t1 ha => ?_))
  refine wq_aload_n q326_410 rfl ?_
  refine wq_aload_n q326_411 rfl ?_
  refine wq_iload q326_412 rfl ?_
  refine wq_iconst q326_414 ?_
  refine wq_iadd q326_415 ?_
  refine wq_scr q326_416 (sc_in 1 rfl (by decide) hI hN) ?_
  refine cL (As := [_]) q326_417 m_222 rfl rfl rfl ⟨by decide, rfl⟩ hu rfl (ha _ (fun hi2 hl2 t2 hJ => ?_))
  refine wq_icmp_eq q326_420 (fun _ => ?_) (fun c => absurd rfl c)
  exact K _ _ _ _ _ _ _ _ (Nat.le_succ _) (Nat.le_add_right _ _) hJ
theorem lc_493 (hN : gN G ≤ 3072) (hI : I + 6 ≤ gN G) (h : JA hi hi f dr n ev wi nx kp dy sa L lc pc) (hu : u.1 ≤ B.1 ∧ u.2 ≤ B.2) (K : LK G B d I u Q) : wq G B (d + 41) 326 493 (lwL I l5 l6) [] u (HP hi hl f dr t) Q := by
  refine wq_aload_n q326_493 rfl ?_
  refine wq_aload_n q326_494 rfl ?_
  refine wq_iload q326_495 rfl ?_
  refine wq_iconst q326_497 ?_
  refine wq_iadd q326_498 ?_
  refine wq_scr q326_499 (sc_in 1 rfl (by decide) hI hN) ?_
  refine wq_aload_n q326_500 rfl ?_
  refine wq_iload q326_501 rfl ?_
  refine wq_iconst q326_503 ?_
  refine wq_iadd q326_504 ?_
  refine wq_scr q326_505 (sc_in 2 rfl (by decide) hI hN) ?_
  refine cL (As := [_, _]) q326_506 m_96 rfl rfl rfl ⟨by decide, rfl⟩ hu rfl (s_cell h _ (fun r hi1 hl1 f1 dr1 t1 ha => ?_))
  refine wq_aload_n q326_509 rfl ?_
  refine wq_aload_n q326_510 rfl ?_
  refine wq_iload q326_511 rfl ?_
  refine wq_iconst q326_513 ?_
  refine wq_iadd q326_514 ?_
  refine wq_scr q326_515 (sc_in 1 rfl (by decide) hI hN) ?_
  refine wq_aload_n q326_516 rfl ?_
  refine wq_iload q326_517 rfl ?_
  refine wq_iconst q326_519 ?_
  refine wq_iadd q326_520 ?_
  refine wq_scr q326_521 (sc_in 2 rfl (by decide) hI hN) ?_
  refine cL (As := [_, _]) q326_522 m_224 rfl rfl rfl ⟨by decide, rfl⟩ hu rfl (ha _ (fun hi2 hl2 t2 hJ => ?_))
  refine wq_icmp_eq q326_525 (fun _ => ?_) (fun c => absurd rfl c)
  exact K _ _ _ _ _ _ _ _ (Nat.le_succ _) (Nat.le_add_right _ _) hJ
theorem lc_530 (hN : gN G ≤ 3072) (hI : I + 6 ≤ gN G) (h : JA hi hi f dr n ev wi nx kp dy sa L lc pc) (hu : u.1 ≤ B.1 ∧ u.2 ≤ B.2) (K : LK G B d I u Q) : wq G B (d + 41) 326 530 (lwL I l5 l6) [] u (HP hi hl f dr t) Q := by
  refine wq_aload_n q326_530 rfl ?_
  refine wq_aload_n q326_531 rfl ?_
  refine wq_iload q326_532 rfl ?_
  refine wq_iconst q326_534 ?_
  refine wq_iadd q326_535 ?_
  refine wq_scr q326_536 (sc_in 1 rfl (by decide) hI hN) ?_
  refine wq_aload_n q326_537 rfl ?_
  refine wq_iload q326_538 rfl ?_
  refine wq_iconst q326_540 ?_
  refine wq_iadd q326_541 ?_
  refine wq_scr q326_542 (sc_in 2 rfl (by decide) hI hN) ?_
  refine cL (As := [_, _]) q326_543 m_97 rfl rfl rfl ⟨by decide, rfl⟩ hu rfl (s_event h _ (fun r hi1 hl1 f1 dr1 t1 ha => ?_))
  refine wq_aload_n q326_546 rfl ?_
  refine wq_aload_n q326_547 rfl ?_
  refine wq_iload q326_548 rfl ?_
  refine wq_iconst q326_550 ?_
  refine wq_iadd q326_551 ?_
  refine wq_scr q326_552 (sc_in 1 rfl (by decide) hI hN) ?_
  refine wq_aload_n q326_553 rfl ?_
  refine wq_iload q326_554 rfl ?_
  refine wq_iconst q326_556 ?_
  refine wq_iadd q326_557 ?_
  refine wq_scr q326_558 (sc_in 2 rfl (by decide) hI hN) ?_
  refine cL (As := [_, _]) q326_559 m_225 rfl rfl rfl ⟨by decide, rfl⟩ hu rfl (ha _ (fun hi2 hl2 t2 hJ => ?_))
  refine wq_icmp_eq q326_562 (fun _ => ?_) (fun c => absurd rfl c)
  exact K _ _ _ _ _ _ _ _ (Nat.le_succ _) (Nat.le_add_right _ _) hJ
theorem lc_567 (hN : gN G ≤ 3072) (hI : I + 6 ≤ gN G) (h : JA hi hi f dr n ev wi nx kp dy sa L lc pc) (hu : u.1 ≤ B.1 ∧ u.2 ≤ B.2) (K : LK G B d I u Q) : wq G B (d + 41) 326 567 (lwL I l5 l6) [] u (HP hi hl f dr t) Q := by
  refine wq_aload_n q326_567 rfl ?_
  refine wq_aload_n q326_568 rfl ?_
  refine wq_iload q326_569 rfl ?_
  refine wq_iconst q326_571 ?_
  refine wq_iadd q326_572 ?_
  refine wq_scr q326_573 (sc_in 1 rfl (by decide) hI hN) ?_
  refine cL (As := [_]) q326_574 m_98 rfl rfl rfl ⟨by decide, rfl⟩ hu rfl (s_law h _ (fun r hi1 hl1 f1 dr1 t1 ha => ?_))
  refine wq_aload_n q326_577 rfl ?_
  refine wq_aload_n q326_578 rfl ?_
  refine wq_iload q326_579 rfl ?_
  refine wq_iconst q326_581 ?_
  refine wq_iadd q326_582 ?_
  refine wq_scr q326_583 (sc_in 1 rfl (by decide) hI hN) ?_
  refine cL (As := [_]) q326_584 m_226 rfl rfl rfl ⟨by decide, rfl⟩ hu rfl (ha _ (fun hi2 hl2 t2 hJ => ?_))
  refine wq_icmp_eq q326_587 (fun _ => ?_) (fun c => absurd rfl c)
  exact K _ _ _ _ _ _ _ _ (Nat.le_succ _) (Nat.le_add_right _ _) hJ
theorem lc_592 (hN : gN G ≤ 3072) (hI : I + 6 ≤ gN G) (h : JA hi hi f dr n ev wi nx kp dy sa L lc pc) (hu : u.1 ≤ B.1 ∧ u.2 ≤ B.2) (K : LK G B d I u Q) : wq G B (d + 41) 326 592 (lwL I l5 l6) [] u (HP hi hl f dr t) Q := by
  refine wq_aload_n q326_592 rfl ?_
  refine wq_aload_n q326_593 rfl ?_
  refine wq_iload q326_594 rfl ?_
  refine wq_iconst q326_596 ?_
  refine wq_iadd q326_597 ?_
  refine wq_scr q326_598 (sc_in 1 rfl (by decide) hI hN) ?_
  refine cL (As := [_]) q326_599 m_99 rfl rfl rfl ⟨by decide, rfl⟩ hu rfl (s_guards h _ (fun r hi1 hl1 f1 dr1 t1 ha => ?_))
  refine wq_aload_n q326_602 rfl ?_
  refine wq_aload_n q326_603 rfl ?_
  refine wq_iload q326_604 rfl ?_
  refine wq_iconst q326_606 ?_
  refine wq_iadd q326_607 ?_
  refine wq_scr q326_608 (sc_in 1 rfl (by decide) hI hN) ?_
  refine cL (As := [_]) q326_609 m_227 rfl rfl rfl ⟨by decide, rfl⟩ hu rfl (ha _ (fun hi2 hl2 t2 hJ => ?_))
  refine wq_icmp_eq q326_612 (fun _ => ?_) (fun c => absurd rfl c)
  exact K _ _ _ _ _ _ _ _ (Nat.le_succ _) (Nat.le_add_right _ _) hJ
theorem lc_617 (hN : gN G ≤ 3072) (hI : I + 6 ≤ gN G) (h : JA hi hi f dr n ev wi nx kp dy sa L lc pc) (hu : u.1 ≤ B.1 ∧ u.2 ≤ B.2) (K : LK G B d I u Q) : wq G B (d + 41) 326 617 (lwL I l5 l6) [] u (HP hi hl f dr t) Q := by
  refine wq_aload_n q326_617 rfl ?_
  refine wq_aload_n q326_618 rfl ?_
  refine wq_iload q326_619 rfl ?_
  refine wq_iconst q326_621 ?_
  refine wq_iadd q326_622 ?_
  refine wq_scr q326_623 (sc_in 1 rfl (by decide) hI hN) ?_
  refine cL (As := [_]) q326_624 m_109 rfl rfl rfl ⟨by decide, rfl⟩ hu rfl (s_see h _ (fun r hi1 hl1 f1 dr1 t1 ha => ?_))
  refine wq_aload_n q326_627 rfl ?_
  refine wq_aload_n q326_628 rfl ?_
  refine wq_iload q326_629 rfl ?_
  refine wq_iconst q326_631 ?_
  refine wq_iadd q326_632 ?_
  refine wq_scr q326_633 (sc_in 1 rfl (by decide) hI hN) ?_
  refine cL (As := [_]) q326_634 m_230 rfl rfl rfl ⟨by decide, rfl⟩ hu rfl (ha _ (fun hi2 hl2 t2 hJ => ?_))
  refine wq_icmp_eq q326_637 (fun _ => ?_) (fun c => absurd rfl c)
  exact K _ _ _ _ _ _ _ _ (Nat.le_succ _) (Nat.le_add_right _ _) hJ
theorem lc_642 (hN : gN G ≤ 3072) (hI : I + 6 ≤ gN G) (h : JA hi hi f dr n ev wi nx kp dy sa L lc pc) (hu : u.1 ≤ B.1 ∧ u.2 ≤ B.2) (K : LK G B d I u Q) : wq G B (d + 41) 326 642 (lwL I l5 l6) [] u (HP hi hl f dr t) Q := by
  refine wq_aload_n q326_642 rfl ?_
  refine cL (As := []) q326_643 m_110 rfl rfl rfl ⟨by decide, rfl⟩ hu rfl (s_tell h _ (fun r hi1 hl1 f1 dr1 t1 ha => ?_))
  refine wq_aload_n q326_646 rfl ?_
  refine cL (As := []) q326_647 m_232 rfl rfl rfl ⟨by decide, rfl⟩ hu rfl (ha _ (fun hi2 hl2 t2 hJ => ?_))
  refine wq_icmp_eq q326_650 (fun _ => ?_) (fun c => absurd rfl c)
  exact K _ _ _ _ _ _ _ _ (Nat.le_succ _) (Nat.le_add_right _ _) hJ
theorem lc_655 (hN : gN G ≤ 3072) (hI : I + 6 ≤ gN G) (h : JA hi hi f dr n ev wi nx kp dy sa L lc pc) (hu : u.1 ≤ B.1 ∧ u.2 ≤ B.2) (K : LK G B d I u Q) : wq G B (d + 41) 326 655 (lwL I l5 l6) [] u (HP hi hl f dr t) Q := by
  refine wq_aload_n q326_655 rfl ?_
  refine wq_aload_n q326_656 rfl ?_
  refine wq_iload q326_657 rfl ?_
  refine wq_iconst q326_659 ?_
  refine wq_iadd q326_660 ?_
  refine wq_scr q326_661 (sc_in 1 rfl (by decide) hI hN) ?_
  refine wq_aload_n q326_662 rfl ?_
  refine wq_iload q326_663 rfl ?_
  refine wq_iconst q326_665 ?_
  refine wq_iadd q326_666 ?_
  refine wq_scr q326_667 (sc_in 2 rfl (by decide) hI hN) ?_
  refine cL (As := [_, _]) q326_668 m_111 rfl rfl rfl ⟨by decide, rfl⟩ hu rfl (s_move h _ (fun r hi1 hl1 f1 dr1 t1 ha => ?_))
  refine wq_aload_n q326_671 rfl ?_
  refine wq_aload_n q326_672 rfl ?_
  refine wq_iload q326_673 rfl ?_
  refine wq_iconst q326_675 ?_
  refine wq_iadd q326_676 ?_
  refine wq_scr q326_677 (sc_in 1 rfl (by decide) hI hN) ?_
  refine wq_aload_n q326_678 rfl ?_
  refine wq_iload q326_679 rfl ?_
  refine wq_iconst q326_681 ?_
  refine wq_iadd q326_682 ?_
  refine wq_scr q326_683 (sc_in 2 rfl (by decide) hI hN) ?_
  refine cL (As := [_, _]) q326_684 m_235 rfl rfl rfl ⟨by decide, rfl⟩ hu rfl (ha _ (fun hi2 hl2 t2 hJ => ?_))
  refine wq_icmp_eq q326_687 (fun _ => ?_) (fun c => absurd rfl c)
  exact K _ _ _ _ _ _ _ _ (Nat.le_succ _) (Nat.le_add_right _ _) hJ
theorem lc_692 (hN : gN G ≤ 3072) (hI : I + 6 ≤ gN G) (h : JA hi hi f dr n ev wi nx kp dy sa L lc pc) (hu : u.1 ≤ B.1 ∧ u.2 ≤ B.2) (K : LK G B d I u Q) : wq G B (d + 41) 326 692 (lwL I l5 l6) [] u (HP hi hl f dr t) Q := by
  refine wq_aload_n q326_692 rfl ?_
  refine wq_aload_n q326_693 rfl ?_
  refine wq_iload q326_694 rfl ?_
  refine wq_iconst q326_696 ?_
  refine wq_iadd q326_697 ?_
  refine wq_scr q326_698 (sc_in 1 rfl (by decide) hI hN) ?_
  refine wq_aload_n q326_699 rfl ?_
  refine wq_iload q326_700 rfl ?_
  refine wq_iconst q326_702 ?_
  refine wq_iadd q326_703 ?_
  refine wq_scr q326_704 (sc_in 2 rfl (by decide) hI hN) ?_
  refine cL (As := [_, _]) q326_705 m_112 rfl rfl rfl ⟨by decide, rfl⟩ hu rfl (s_mirror h _ (fun r hi1 hl1 f1 dr1 t1 ha => ?_))
  refine wq_aload_n q326_708 rfl ?_
  refine wq_aload_n q326_709 rfl ?_
  refine wq_iload q326_710 rfl ?_
  refine wq_iconst q326_712 ?_
  refine wq_iadd q326_713 ?_
  refine wq_scr q326_714 (sc_in 1 rfl (by decide) hI hN) ?_
  refine wq_aload_n q326_715 rfl ?_
  refine wq_iload q326_716 rfl ?_
  refine wq_iconst q326_718 ?_
  refine wq_iadd q326_719 ?_
  refine wq_scr q326_720 (sc_in 2 rfl (by decide) hI hN) ?_
  refine cL (As := [_, _]) q326_721 m_236 rfl rfl rfl ⟨by decide, rfl⟩ hu rfl (ha _ (fun hi2 hl2 t2 hJ => ?_))
  refine wq_icmp_eq q326_724 (fun _ => ?_) (fun c => absurd rfl c)
  exact K _ _ _ _ _ _ _ _ (Nat.le_succ _) (Nat.le_add_right _ _) hJ
theorem lc_729 (hN : gN G ≤ 3072) (hI : I + 6 ≤ gN G) (h : JA hi hi f dr n ev wi nx kp dy sa L lc pc) (hu : u.1 ≤ B.1 ∧ u.2 ≤ B.2) (K : LK G B d I u Q) : wq G B (d + 41) 326 729 (lwL I l5 l6) [] u (HP hi hl f dr t) Q := by
  refine wq_aload_n q326_729 rfl ?_
  refine cL (As := []) q326_730 m_113 rfl rfl rfl ⟨by decide, rfl⟩ hu rfl (s_code h _ (fun r hi1 hl1 f1 dr1 t1 ha => ?_))
  refine wq_aload_n q326_733 rfl ?_
  refine cL (As := []) q326_734 m_240 rfl rfl rfl ⟨by decide, rfl⟩ hu rfl (ha _ (fun hi2 hl2 t2 hJ => ?_))
  refine wq_icmp_eq q326_737 (fun _ => ?_) (fun c => absurd rfl c)
  exact K _ _ _ _ _ _ _ _ (Nat.le_succ _) (Nat.le_add_right _ _) hJ
theorem lc_742 (hN : gN G ≤ 3072) (hI : I + 6 ≤ gN G) (h : JA hi hi f dr n ev wi nx kp dy sa L lc pc) (hu : u.1 ≤ B.1 ∧ u.2 ≤ B.2) (K : LK G B d I u Q) : wq G B (d + 41) 326 742 (lwL I l5 l6) [] u (HP hi hl f dr t) Q := by
  refine wq_aload_n q326_742 rfl ?_
  refine wq_aload_n q326_743 rfl ?_
  refine wq_iload q326_744 rfl ?_
  refine wq_iconst q326_746 ?_
  refine wq_iadd q326_747 ?_
  refine wq_scr q326_748 (sc_in 1 rfl (by decide) hI hN) ?_
  refine cL (As := [_]) q326_749 m_114 rfl rfl rfl ⟨by decide, rfl⟩ hu rfl (s_days h _ (fun r hi1 hl1 f1 dr1 t1 ha => ?_))
  refine wq_aload_n q326_752 rfl ?_
  refine wq_aload_n q326_753 rfl ?_
  refine wq_iload q326_754 rfl ?_
  refine wq_iconst q326_756 ?_
  refine wq_iadd q326_757 ?_
  refine wq_scr q326_758 (sc_in 1 rfl (by decide) hI hN) ?_
  refine cL (As := [_]) q326_759 m_242 rfl rfl rfl ⟨by decide, rfl⟩ hu rfl (ha _ (fun hi2 hl2 t2 hJ => ?_))
  refine wq_icmp_eq q326_762 (fun _ => ?_) (fun c => absurd rfl c)
  exact K _ _ _ _ _ _ _ _ (Nat.le_succ _) (Nat.le_add_right _ _) hJ
theorem lc_767 (hN : gN G ≤ 3072) (hI : I + 6 ≤ gN G) (h : JA hi hi f dr n ev wi nx kp dy sa L lc pc) (hu : u.1 ≤ B.1 ∧ u.2 ≤ B.2) (K : LK G B d I u Q) : wq G B (d + 41) 326 767 (lwL I l5 l6) [] u (HP hi hl f dr t) Q := by
  refine wq_aload_n q326_767 rfl ?_
  refine wq_aload_n q326_768 rfl ?_
  refine wq_iload q326_769 rfl ?_
  refine wq_iconst q326_771 ?_
  refine wq_iadd q326_772 ?_
  refine wq_scr q326_773 (sc_in 1 rfl (by decide) hI hN) ?_
  refine wq_aload_n q326_774 rfl ?_
  refine wq_iload q326_775 rfl ?_
  refine wq_iconst q326_777 ?_
  refine wq_iadd q326_778 ?_
  refine wq_scr q326_779 (sc_in 2 rfl (by decide) hI hN) ?_
  refine wq_i2l q326_780 ?_
  refine wq_bipush q326_781 ?_
  refine wq_lshl q326_783 ?_
  refine wq_aload_n q326_784 rfl ?_
  refine wq_iload q326_785 rfl ?_
  refine wq_iconst q326_787 ?_
  refine wq_iadd q326_788 ?_
  refine wq_scr q326_789 (sc_in 3 rfl (by decide) hI hN) ?_
  refine wq_i2l q326_790 ?_
  refine wq_ldc2_w q326_791 ?_
  refine wq_land q326_794 ?_
  refine wq_lor q326_795 ?_
  refine cL (As := [_, _]) q326_796 m_115 rfl rfl rfl ⟨by decide, rfl⟩ hu rfl (s_years h _ (fun r hi1 hl1 f1 dr1 t1 ha => ?_))
  refine wq_aload_n q326_799 rfl ?_
  refine wq_aload_n q326_800 rfl ?_
  refine wq_iload q326_801 rfl ?_
  refine wq_iconst q326_803 ?_
  refine wq_iadd q326_804 ?_
  refine wq_scr q326_805 (sc_in 1 rfl (by decide) hI hN) ?_
  refine wq_aload_n q326_806 rfl ?_
  refine wq_iload q326_807 rfl ?_
  refine wq_iconst q326_809 ?_
  refine wq_iadd q326_810 ?_
  refine wq_scr q326_811 (sc_in 2 rfl (by decide) hI hN) ?_
  refine wq_i2l q326_812 ?_
  refine wq_bipush q326_813 ?_
  refine wq_lshl q326_815 ?_
  refine wq_aload_n q326_816 rfl ?_
  refine wq_iload q326_817 rfl ?_
  refine wq_iconst q326_819 ?_
  refine wq_iadd q326_820 ?_
  refine wq_scr q326_821 (sc_in 3 rfl (by decide) hI hN) ?_
  refine wq_i2l q326_822 ?_
  refine wq_ldc2_w q326_823 ?_
  refine wq_land q326_826 ?_
  refine wq_lor q326_827 ?_
  refine cL (As := [_, _]) q326_828 m_245 rfl rfl rfl ⟨by decide, rfl⟩ hu rfl (ha _ (fun hi2 hl2 t2 hJ => ?_))
  refine wq_icmp_eq q326_831 (fun _ => ?_) (fun c => absurd rfl c)
  exact K _ _ _ _ _ _ _ _ (Nat.le_succ _) (Nat.le_add_right _ _) hJ
end LAW
