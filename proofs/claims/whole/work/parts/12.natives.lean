/-! MATH, ARRAYCOPY, OBJECT'S CONSTRUCTOR, WHAT IS MADE -/
theorem mw_max : inG 484 (.static Lib.Math.max.name) ∧ inG 126 (.initialized "java/lang/Math") ∧ inG 485 (.code Lib.Math.max.name Lib.Math.max.code 2 (some .int)) := by decide +kernel
theorem mw_min : inG 487 (.static Lib.Math.min.name) ∧ inG 126 (.initialized "java/lang/Math") ∧ inG 488 (.code Lib.Math.min.name Lib.Math.min.code 2 (some .int)) := by decide +kernel
theorem mw_abs : inG 1155 (.static Lib.Math.abs.name) ∧ inG 126 (.initialized "java/lang/Math") ∧ inG 1156 (.code Lib.Math.abs.name Lib.Math.abs.code 1 (some .int)) := by decide +kernel
theorem mw_maxL : inG 871 (.static Lib.MathLoose.max_long.x) ∧ inG 126 (.initialized "java/lang/Math") ∧ inG 872 (.code Lib.MathLoose.max_long.x Lib.MathLoose.max_long.code 4 (some .long)) := by decide +kernel
theorem mw_minL : inG 868 (.static Lib.MathLoose.min_long.x) ∧ inG 126 (.initialized "java/lang/Math") ∧ inG 869 (.code Lib.MathLoose.min_long.x Lib.MathLoose.min_long.code 4 (some .long)) := by decide +kernel
theorem mw_copy : inG 423 (.native arraycopyName) ∧ inG 422 (.static arraycopyName) ∧ inG 123 (.initialized "java/lang/System") := by decide +kernel
theorem mw_obj : inG 142 (.instanceMethod Lib.objectInit) ∧ inG 143 (.code Lib.objectInit ⟨#[0xb1]⟩ 1 none) := by decide +kernel
section NAT
variable {G : ph_G} {B : Nat × Nat} {d k pc npc : Nat} {ls ls' : List (Option Value)} {st : List Value} {u : Nat × Nat} {h : ph_H} {Q : Option Value → ph_H → Prop}
abbrev ph_fit0 (B u : Nat × Nat) (rest : List Value) : Prop := u.1 ≤ B.1 ∧ u.2 ≤ B.2 ∧ (rest.map fun v => v.category).sum ≤ 8
theorem wq_max {xi wi : Nat} {x y : Int32} (q : qD k pc (.invokestatic xi) 3 npc ∧ inG wi (.methodLink (mN k).cls xi Lib.Math.max.name)) (hf : ph_fit0 B u st) (kk : wq G B (d + 1) k npc ls (.int (if x < y then y else x) :: st) u h Q) : wq G B (d + 1) k pc ls (.int y :: .int x :: st) u h Q := by
  intro p e R s m args below meth c H locs Ls hC hW hS' hL
  obtain ⟨⟨q1, rfl⟩, q2⟩ := q
  have hts := hC.2.2.2.2.1
  have hR := hC.2.2.2.2.2.2.2.2.2
  exact va_mmax hC.1 hC.2.1 (hC.2.2.1.trans hL.1.symm) hC.2.2.2.1 (hts _ (inG_mem q2)) (hts _ (inG_mem mw_max.1)) (hts _ (inG_mem mw_max.2.1)) (hts _ (inG_mem mw_max.2.2)) (by omega) (by rw [ph_cats]; omega) (Nat.le_trans hf.1 hR.2.2.1) (Nat.le_trans hf.2.1 hR.2.2.2) q1 (kk p e R s m args below meth c H locs Ls hC hW hS' hL)
theorem wq_min {xi wi : Nat} {x y : Int32} (q : qD k pc (.invokestatic xi) 3 npc ∧ inG wi (.methodLink (mN k).cls xi Lib.Math.min.name)) (hf : ph_fit0 B u st) (kk : wq G B (d + 1) k npc ls (.int (if y < x then y else x) :: st) u h Q) : wq G B (d + 1) k pc ls (.int y :: .int x :: st) u h Q := by
  intro p e R s m args below meth c H locs Ls hC hW hS' hL
  obtain ⟨⟨q1, rfl⟩, q2⟩ := q
  have hts := hC.2.2.2.2.1
  have hR := hC.2.2.2.2.2.2.2.2.2
  exact va_mmin hC.1 hC.2.1 (hC.2.2.1.trans hL.1.symm) hC.2.2.2.1 (hts _ (inG_mem q2)) (hts _ (inG_mem mw_min.1)) (hts _ (inG_mem mw_min.2.1)) (hts _ (inG_mem mw_min.2.2)) (by omega) (by rw [ph_cats]; omega) (Nat.le_trans hf.1 hR.2.2.1) (Nat.le_trans hf.2.1 hR.2.2.2) q1 (kk p e R s m args below meth c H locs Ls hC hW hS' hL)
theorem wq_abs {xi wi : Nat} {x : Int32} (q : qD k pc (.invokestatic xi) 3 npc ∧ inG wi (.methodLink (mN k).cls xi Lib.Math.abs.name)) (hf : ph_fit0 B u st) (kk : wq G B (d + 1) k npc ls (.int (if 0 ≤ x then x else 0 - x) :: st) u h Q) : wq G B (d + 1) k pc ls (.int x :: st) u h Q := by
  intro p e R s m args below meth c H locs Ls hC hW hS' hL
  obtain ⟨⟨q1, rfl⟩, q2⟩ := q
  have hts := hC.2.2.2.2.1
  have hR := hC.2.2.2.2.2.2.2.2.2
  exact va_mabs hC.1 hC.2.1 (hC.2.2.1.trans hL.1.symm) hC.2.2.2.1 (hts _ (inG_mem q2)) (hts _ (inG_mem mw_abs.1)) (hts _ (inG_mem mw_abs.2.1)) (hts _ (inG_mem mw_abs.2.2)) (by omega) (by rw [ph_cats]; omega) (Nat.le_trans hf.1 hR.2.2.1) (Nat.le_trans hf.2.1 hR.2.2.2) q1 (kk p e R s m args below meth c H locs Ls hC hW hS' hL)
theorem wq_maxL {xi wi : Nat} {x y : Int64} (q : qD k pc (.invokestatic xi) 3 npc ∧ inG wi (.methodLink (mN k).cls xi Lib.MathLoose.max_long.x)) (hf : ph_fit0 B u st) (kk : wq G B (d + 1) k npc ls (.long (if y < x then x else y) :: st) u h Q) : wq G B (d + 1) k pc ls (.long y :: .long x :: st) u h Q := by
  intro p e R s m args below meth c H locs Ls hC hW hS' hL
  obtain ⟨⟨q1, rfl⟩, q2⟩ := q
  have hts := hC.2.2.2.2.1
  have hR := hC.2.2.2.2.2.2.2.2.2
  exact va_mmax_long hC.1 hC.2.1 (hC.2.2.1.trans hL.1.symm) hC.2.2.2.1 (hts _ (inG_mem q2)) (hts _ (inG_mem mw_maxL.1)) (hts _ (inG_mem mw_maxL.2.1)) (hts _ (inG_mem mw_maxL.2.2)) (by omega) (by rw [ph_cats]; omega) (Nat.le_trans hf.1 hR.2.2.1) (Nat.le_trans hf.2.1 hR.2.2.2) q1 (kk p e R s m args below meth c H locs Ls hC hW hS' hL)
theorem wq_minL {xi wi : Nat} {x y : Int64} (q : qD k pc (.invokestatic xi) 3 npc ∧ inG wi (.methodLink (mN k).cls xi Lib.MathLoose.min_long.x)) (hf : ph_fit0 B u st) (kk : wq G B (d + 1) k npc ls (.long (if y < x then y else x) :: st) u h Q) : wq G B (d + 1) k pc ls (.long y :: .long x :: st) u h Q := by
  intro p e R s m args below meth c H locs Ls hC hW hS' hL
  obtain ⟨⟨q1, rfl⟩, q2⟩ := q
  have hts := hC.2.2.2.2.1
  have hR := hC.2.2.2.2.2.2.2.2.2
  exact va_mmin_long hC.1 hC.2.1 (hC.2.2.1.trans hL.1.symm) hC.2.2.2.1 (hts _ (inG_mem q2)) (hts _ (inG_mem mw_minL.1)) (hts _ (inG_mem mw_minL.2.1)) (hts _ (inG_mem mw_minL.2.2)) (by omega) (by rw [ph_cats]; omega) (Nat.le_trans hf.1 hR.2.2.1) (Nat.le_trans hf.2.1 hR.2.2.2) q1 (kk p e R s m args below meth c H locs Ls hC hW hS' hL)
theorem wq_obj {xi wi a : Nat} {qa : Nat × Nat} (q : qD k pc (.invokespecial xi) 3 npc ∧ inG wi (.methodLink (mN k).cls xi Lib.objectInit)) (ha : (hS h)[a]? = some qa) (hf : ph_fit0 B u st) (kk : wq G B (d + 1) k npc ls st u h Q) : wq G B (d + 1) k pc ls (.ref a :: st) u h Q := by
  intro p e R s m args below meth c H locs Ls hC hW hS' hL
  obtain ⟨⟨q1, rfl⟩, q2⟩ := q
  have hts := hC.2.2.2.2.1
  have hR := hC.2.2.2.2.2.2.2.2.2
  simp only [List.map_cons, ph_ra hW ha]
  exact W.objInit hC.1 hC.2.1 hC.2.2.2.1 (hts _ (inG_mem q2)) (hts _ (inG_mem mw_obj.1)) (hts _ (inG_mem mw_obj.2)) rfl (hL.1.trans hC.2.2.1.symm) rfl q1 (by omega) (by rw [ph_cats]; show 2 * 0 + _ + 12 ≤ _; omega) (kk p e R s m args below meth c H locs Ls hC hW hS' hL)
/-- arraycopy of ints: a whole stretch of a row -/
def stC (h : ph_H) (a : Nat) (f : Nat → Int32) : ph_H := (h.1, h.2.1, (fun b => if b = a then f else h.2.2.1 b), h.2.2.2.1, h.2.2.2.2)
theorem ph_ceC {a : Nat} {f : Nat → Int32} (b : Nat) (hb : b ≠ a) : ph_ce G (stC h a f) b = ph_ce G h b := by
  have e1 : hS (stC h a f) = hS h := rfl
  have e2 : ∀ t s, ph_fv G (stC h a f) b t s = ph_fv G h b t s := by
    intro t s
    cases t <;> simp only [ph_fv, stC, hI, hL, hR, if_neg hb]
  simp only [ph_ce, e1, e2, ph_ar]
  simp only [stC, hI, hL, hR, if_neg hb]
theorem ph_setC {a n : Nat} {f : Nat → Int32} (ha : (hS h)[a]? = some (100, n)) : (ph_ws G h).set a (gB G + a, .inl (gA G 100, n, .inl f)) = ph_ws G (stC h a f) := by
  have e : ph_ce G (stC h a f) a = .inl (gA G 100, n, .inl f) := by
    rw [ph_ce_a (h := stC h a f) ha (by omega)]
    simp only [ph_ar, stC, hI, if_pos]
    rfl
  rw [← e]
  exact ph_set rfl (fun b hb => ph_ceC b hb)
theorem nfw : nativeFrameWords "java/lang/System" "arraycopy" 5 + 11 ≤ 52 := by decide +kernel
theorem wq_copy {xi wi a0 a n0 n1 : Nat} {sp dp n : Int32} (q : qD k pc (.invokestatic xi) 3 npc ∧ inG wi (.methodLink (mN k).cls xi arraycopyName)) (ha0 : (hS h)[a0]? = some (100, n0)) (ha : (hS h)[a]? = some (100, n1)) (h1 : ¬ sp < 0) (h2 : ¬ dp < 0) (h3 : ¬ n < 0) (h4 : sp.toNatClampNeg + n.toNatClampNeg ≤ n0) (h5 : dp.toNatClampNeg + n.toNatClampNeg ≤ n1) (hfr : h.1 = false) (hf : ph_fit0 B u st)
    (kk : wq G B (d + 1) k npc ls st u (stC h a (va_cpy (hI h a0) (hI h a) sp.toNatClampNeg dp.toNatClampNeg n.toNatClampNeg)) Q) : wq G B (d + 1) k pc ls (.int n :: .int dp :: .ref a :: .int sp :: .ref a0 :: st) u h Q := by
  intro p e R s m args below meth c H locs Ls hC hW hS' hL
  obtain ⟨⟨q1, rfl⟩, q2⟩ := q
  have hts := hC.2.2.2.2.1
  have hR := hC.2.2.2.2.2.2.2.2.2
  have hnf := nfw
  simp only [List.map_cons, ph_ra hW ha, ph_ra hW ha0]
  refine va_copyi hC.1 hC.2.1 (hC.2.2.1.trans hL.1.symm) hC.2.2.2.1 (hts _ (inG_mem q2)) (hts _ (inG_mem mw_copy.1)) (hts _ (inG_mem mw_copy.2.1)) (hts _ (inG_mem mw_copy.2.2)) hC.2.2.2.2.2.2.2.2.1.1 hW.1 (ph_D G h) hS' a0 a 0 0 (ph_aI ha0 (by omega) (by omega)) (ph_aI ha (by omega) (by omega)) rfl rfl rfl h1 h2 h3 h4 h5 (fun _ _ => rfl) (by omega) (by rw [ph_cats]; omega) q1 (fun H1 locs1 hP1 _ hS1 => ?_)
  have hP2 : va_P (gD G) vwCl (ph_ws G (stC h a (va_cpy (hI h a0) (hI h a) sp.toNatClampNeg dp.toNatClampNeg n.toNatClampNeg))) H1 := by
    rw [← ph_setC ha]; exact hP1
  exact kk p e R s m args below meth c H1 locs1 Ls hC ⟨hP2, hW.2.1, fun z => by rw [show (stC h a (va_cpy (hI h a0) (hI h a) sp.toNatClampNeg dp.toNatClampNeg n.toNatClampNeg)).1 = h.1 from rfl, hfr] at z; cases z⟩ hS1 hL
end NAT
