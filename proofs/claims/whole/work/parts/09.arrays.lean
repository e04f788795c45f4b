section HEAP
variable {G : ph_G} {B : Nat × Nat} {d k pc npc : Nat} {ls ls' : List (Option Value)} {st : List Value} {u : Nat × Nat} {h : ph_H} {Q : Option Value → ph_H → Prop}
/-! arrays -/
theorem ph_ra {H : Heap} (hW : ph_Wd G h H) {a : Nat} {q : Nat × Nat} (ha : (hS h)[a]? = some q) : cv G (.ref a) = .ref (gB G + a) := by show Value.ref _ = _; rw [ph_ad_lt hW ha]
theorem ph_aI {a kd n : Nat} (ha : (hS h)[a]? = some (kd, n)) (h1 : 100 ≤ kd) (h2 : kd < 103) : (ph_ws G h)[a]? = some (gB G + a, .inl (gA G kd, n, .inl (hI h a))) := by
  rw [ph_at ha, ph_ce_a ha h1]
  simp only [ph_ar, if_pos h2]
theorem ph_aL {a n : Nat} (ha : (hS h)[a]? = some (103, n)) : (ph_ws G h)[a]? = some (gB G + a, .inl (gA G 103, n, .inr (.inl (hL h a)))) := by
  rw [ph_at ha, ph_ce_a ha (by omega)]
  simp only [ph_ar]
  rfl
theorem ph_aR {a kd n : Nat} (ha : (hS h)[a]? = some (kd, n)) (h1 : 104 ≤ kd) : (ph_ws G h)[a]? = some (gB G + a, .inl (gA G kd, n, .inr (.inr (.inr (.inr (fun i => (hR h a i).map (ph_ad G))))))) := by
  rw [ph_at ha, ph_ce_a ha (by omega)]
  simp only [ph_ar, if_neg (show ¬ kd < 103 by omega), if_neg (show ¬ kd = 103 by omega)]
theorem ph_ty (i : Nat) {q : ClassId × FieldType} (hi : (ph_tys G)[i]? = some q) : (ph_tys G)[i]? = some q := hi
theorem wq_iald {a n : Nat} {i : Int32} (q : qD k pc .iaload 1 npc) (ha : (hS h)[a]? = some (100, n)) (hin : vp_in i n) (kk : wq G B d k npc ls (.int (hI h a i.toNatClampNeg) :: st) u h Q) : wq G B d k pc ls (.int i :: .ref a :: st) u h Q := by
  intro p e R s m args below meth c H locs Ls hC hW hS' hL
  obtain ⟨q1, rfl⟩ := q
  have kk := kk p e R s m args below meth c H locs Ls hC hW hS' hL
  simp only [List.map_cons, ph_ra hW ha] at kk ⊢
  exact va_iald hC.1 hC.2.1 hC.2.2.2.2.2.2.2.2.1.1 hW.1 a 0 (ph_aI ha (by omega) (by omega)) rfl hin q1 kk
theorem wq_bald {a n : Nat} {i : Int32} (q : qD k pc .baload 1 npc) (ha : (hS h)[a]? = some (101, n)) (hin : vp_in i n) (kk : wq G B d k npc ls (.int (hI h a i.toNatClampNeg) :: st) u h Q) : wq G B d k pc ls (.int i :: .ref a :: st) u h Q := by
  intro p e R s m args below meth c H locs Ls hC hW hS' hL
  obtain ⟨q1, rfl⟩ := q
  have kk := kk p e R s m args below meth c H locs Ls hC hW hS' hL
  simp only [List.map_cons, ph_ra hW ha] at kk ⊢
  exact va_bald hC.1 hC.2.1 hC.2.2.2.2.2.2.2.2.1.1 hW.1 a 1 (ph_aI ha (by omega) (by omega)) rfl hin q1 kk
theorem wq_zald {a n : Nat} {i : Int32} (q : qD k pc .baload 1 npc) (ha : (hS h)[a]? = some (102, n)) (hin : vp_in i n) (kk : wq G B d k npc ls (.int (hI h a i.toNatClampNeg) :: st) u h Q) : wq G B d k pc ls (.int i :: .ref a :: st) u h Q := by
  intro p e R s m args below meth c H locs Ls hC hW hS' hL
  obtain ⟨q1, rfl⟩ := q
  have kk := kk p e R s m args below meth c H locs Ls hC hW hS' hL
  simp only [List.map_cons, ph_ra hW ha] at kk ⊢
  exact va_zald hC.1 hC.2.1 hC.2.2.2.2.2.2.2.2.1.1 hW.1 a 2 (ph_aI ha (by omega) (by omega)) rfl hin q1 kk
theorem wq_lald {a n : Nat} {i : Int32} (q : qD k pc .laload 1 npc) (ha : (hS h)[a]? = some (103, n)) (hin : vp_in i n) (kk : wq G B d k npc ls (.long (hL h a i.toNatClampNeg) :: st) u h Q) : wq G B d k pc ls (.int i :: .ref a :: st) u h Q := by
  intro p e R s m args below meth c H locs Ls hC hW hS' hL
  obtain ⟨q1, rfl⟩ := q
  have kk := kk p e R s m args below meth c H locs Ls hC hW hS' hL
  simp only [List.map_cons, ph_ra hW ha] at kk ⊢
  exact va_lald hC.1 hC.2.1 hC.2.2.2.2.2.2.2.2.1.1 hW.1 a 3 (ph_aL ha) rfl hin q1 kk
theorem wq_aald {a n kd b : Nat} {i : Int32} (q : qD k pc .aaload 1 npc) (ha : (hS h)[a]? = some (kd, n)) (hk : kd = 104 ∨ kd = 105) (hin : vp_in i n) (hb : hR h a i.toNatClampNeg = some b) (kk : wq G B d k npc ls (.ref b :: st) u h Q) : wq G B d k pc ls (.int i :: .ref a :: st) u h Q := by
  intro p e R s m args below meth c H locs Ls hC hW hS' hL
  obtain ⟨q1, rfl⟩ := q
  have kk := kk p e R s m args below meth c H locs Ls hC hW hS' hL
  simp only [List.map_cons, ph_ra hW ha] at kk ⊢
  rcases hk with rfl | rfl
  · refine va_aldq hC.1 hC.2.1 hC.2.2.2.2.2.2.2.2.1.1 hW.1 a 4 (C := RX5) (ph_aR ha (by omega)) rfl hin q1 ?_
    simp only [hb, Option.map_some]
    exact kk
  · refine va_aldq hC.1 hC.2.1 hC.2.2.2.2.2.2.2.2.1.1 hW.1 a 5 (C := RX6) (ph_aR ha (by omega)) rfl hin q1 ?_
    simp only [hb, Option.map_some]
    exact kk
theorem wq_alen {a n kd : Nat} (q : qD k pc .arraylength 1 npc) (ha : (hS h)[a]? = some (kd, n)) (hk : 100 ≤ kd ∧ kd < 106) (kk : wq G B d k npc ls (.int (Int32.ofNat n) :: st) u h Q) : wq G B d k pc ls (.ref a :: st) u h Q := by
  intro p e R s m args below meth c H locs Ls hC hW hS' hL
  obtain ⟨q1, rfl⟩ := q
  have kk := kk p e R s m args below meth c H locs Ls hC hW hS' hL
  simp only [List.map_cons, ph_ra hW ha] at kk ⊢
  have hat := ph_at (G := G) ha
  rw [ph_ce_a ha hk.1] at hat
  obtain ⟨j, hj⟩ : ∃ j ty, (ph_tys G)[j]? = some (gA G kd, ty) := by
    obtain ⟨h1, h2⟩ := hk
    have : kd = 100 ∨ kd = 101 ∨ kd = 102 ∨ kd = 103 ∨ kd = 104 ∨ kd = 105 := by omega
    rcases this with rfl | rfl | rfl | rfl | rfl | rfl
    · exact ⟨0, _, rfl⟩
    · exact ⟨1, _, rfl⟩
    · exact ⟨2, _, rfl⟩
    · exact ⟨3, _, rfl⟩
    · exact ⟨4, _, rfl⟩
    · exact ⟨5, _, rfl⟩
  obtain ⟨ty, hj⟩ := hj
  exact va_alen hC.1 hC.2.1 hC.2.2.2.2.2.2.2.2.1.1 hW.1 a j hat hj rfl q1 kk
end HEAP
