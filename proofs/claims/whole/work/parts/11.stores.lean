/-! STORES INTO ARRAYS, CONSTANT ARRAYS, STATICS, NATIVES, SWITCHES -/
section STORES
variable {G : ph_G} {B : Nat × Nat} {d k pc npc : Nat} {ls ls' : List (Option Value)} {st : List Value} {u : Nat × Nat} {h : ph_H} {Q : Option Value → ph_H → Prop}
theorem ph_ceIa {a kd n i : Nat} {x : Int32} (ha : (hS h)[a]? = some (kd, n)) (h1 : 100 ≤ kd) (h2 : kd < 103) : ph_ce G (stI h a i x) a = .inl (gA G kd, n, .inl (va_up (hI h a) i x)) := by
  rw [ph_ce_a (h := stI h a i x) ha h1]
  simp only [ph_ar, if_pos h2, stI, hI, up2_s]
theorem ph_setI {a kd n i : Nat} {x : Int32} (ha : (hS h)[a]? = some (kd, n)) (h1 : 100 ≤ kd) (h2 : kd < 103) : (ph_ws G h).set a (gB G + a, .inl (gA G kd, n, .inl (va_up (hI h a) i x))) = ph_ws G (stI h a i x) := by
  rw [← ph_ceIa ha h1 h2]
  exact ph_set rfl (fun b hb => ph_ceI b hb)
theorem wq_iast {a n : Nat} {i x : Int32} (q : qD k pc .iastore 1 npc) (ha : (hS h)[a]? = some (100, n)) (hin : vp_in i n) (hfr : h.1 = false) (kk : wq G B d k npc ls st u (stI h a i.toNatClampNeg x) Q) : wq G B d k pc ls (.int x :: .int i :: .ref a :: st) u h Q := by
  intro p e R s m args below meth c H locs Ls hC hW hS' hL
  obtain ⟨q1, rfl⟩ := q
  simp only [List.map_cons, ph_ra hW ha]
  refine va_iast hC.1 hC.2.1 hC.2.2.2.2.2.2.2.2.1.1 hW.1 (ph_D G h) hS' a 0 (ph_aI ha (by omega) (by omega)) rfl hin q1 (fun H1 locs1 hP1 _ hS1 => ?_)
  have hP2 : va_P (gD G) vwCl (ph_ws G (stI h a i.toNatClampNeg x)) H1 := by
    rw [← ph_setI ha (by omega) (by omega)]; exact hP1
  exact kk p e R s m args below meth c H1 locs1 Ls hC ⟨hP2, hW.2.1, fun z => by rw [show (stI h a i.toNatClampNeg x).1 = h.1 from rfl, hfr] at z; cases z⟩ hS1 hL
theorem wq_bast {a n : Nat} {i x : Int32} (q : qD k pc .bastore 1 npc) (ha : (hS h)[a]? = some (101, n)) (hin : vp_in i n) (hfr : h.1 = false) (kk : wq G B d k npc ls st u (stI h a i.toNatClampNeg (vp_nar .byte x)) Q) : wq G B d k pc ls (.int x :: .int i :: .ref a :: st) u h Q := by
  intro p e R s m args below meth c H locs Ls hC hW hS' hL
  obtain ⟨q1, rfl⟩ := q
  simp only [List.map_cons, ph_ra hW ha]
  refine va_bast hC.1 hC.2.1 hC.2.2.2.2.2.2.2.2.1.1 hW.1 (ph_D G h) hS' a 1 (ph_aI ha (by omega) (by omega)) rfl hin q1 (fun H1 locs1 hP1 _ hS1 => ?_)
  have hP2 : va_P (gD G) vwCl (ph_ws G (stI h a i.toNatClampNeg (vp_nar .byte x))) H1 := by
    rw [← ph_setI ha (by omega) (by omega)]; exact hP1
  exact kk p e R s m args below meth c H1 locs1 Ls hC ⟨hP2, hW.2.1, fun z => by rw [show (stI h a i.toNatClampNeg (vp_nar .byte x)).1 = h.1 from rfl, hfr] at z; cases z⟩ hS1 hL
theorem wq_zast {a n : Nat} {i x : Int32} (q : qD k pc .bastore 1 npc) (ha : (hS h)[a]? = some (102, n)) (hin : vp_in i n) (hfr : h.1 = false) (kk : wq G B d k npc ls st u (stI h a i.toNatClampNeg (vp_nar .boolean x)) Q) : wq G B d k pc ls (.int x :: .int i :: .ref a :: st) u h Q := by
  intro p e R s m args below meth c H locs Ls hC hW hS' hL
  obtain ⟨q1, rfl⟩ := q
  simp only [List.map_cons, ph_ra hW ha]
  refine va_zast hC.1 hC.2.1 hC.2.2.2.2.2.2.2.2.1.1 hW.1 (ph_D G h) hS' a 2 (ph_aI ha (by omega) (by omega)) rfl hin q1 (fun H1 locs1 hP1 _ hS1 => ?_)
  have hP2 : va_P (gD G) vwCl (ph_ws G (stI h a i.toNatClampNeg (vp_nar .boolean x))) H1 := by
    rw [← ph_setI ha (by omega) (by omega)]; exact hP1
  exact kk p e R s m args below meth c H1 locs1 Ls hC ⟨hP2, hW.2.1, fun z => by rw [show (stI h a i.toNatClampNeg (vp_nar .boolean x)).1 = h.1 from rfl, hfr] at z; cases z⟩ hS1 hL
theorem ph_setL {a n i : Nat} {x : Int64} (ha : (hS h)[a]? = some (103, n)) : (ph_ws G h).set a (gB G + a, .inl (gA G 103, n, .inr (.inl (va_up (hL h a) i x)))) = ph_ws G (stL h a i x) := by
  have e : ph_ce G (stL h a i x) a = .inl (gA G 103, n, .inr (.inl (va_up (hL h a) i x))) := by
    rw [ph_ce_a (h := stL h a i x) ha (by omega)]
    simp only [ph_ar, stL, hL, up2_s]
    rfl
  rw [← e]
  exact ph_set rfl (fun b hb => ph_ceL b hb)
theorem wq_last {a n : Nat} {i : Int32} {x : Int64} (q : qD k pc .lastore 1 npc) (ha : (hS h)[a]? = some (103, n)) (hin : vp_in i n) (hfr : h.1 = false) (kk : wq G B d k npc ls st u (stL h a i.toNatClampNeg x) Q) : wq G B d k pc ls (.long x :: .int i :: .ref a :: st) u h Q := by
  intro p e R s m args below meth c H locs Ls hC hW hS' hL
  obtain ⟨q1, rfl⟩ := q
  simp only [List.map_cons, ph_ra hW ha]
  refine va_last hC.1 hC.2.1 hC.2.2.2.2.2.2.2.2.1.1 hW.1 (ph_D G h) hS' a 3 (ph_aL ha) rfl hin q1 (fun H1 locs1 hP1 _ hS1 => ?_)
  have hP2 : va_P (gD G) vwCl (ph_ws G (stL h a i.toNatClampNeg x)) H1 := by
    rw [← ph_setL ha]; exact hP1
  exact kk p e R s m args below meth c H1 locs1 Ls hC ⟨hP2, hW.2.1, fun z => by rw [show (stL h a i.toNatClampNeg x).1 = h.1 from rfl, hfr] at z; cases z⟩ hS1 hL
/-! constants -/
theorem ph_rk (i : Nat) : cv G (.ref (1000 + i)) = .ref (gK G i) := by show Value.ref _ = _; rw [ph_adK]
theorem wq_ialdC {j : Nat} {i : Int32} {cq : String × List Int32} (q : qD k pc .iaload 1 npc) (hc : cS[j]? = some cq) (hin : vp_in i cq.2.length) (kk : wq G B d k npc ls (.int (cq.2.getD i.toNatClampNeg 0) :: st) u h Q) : wq G B d k pc ls (.int i :: .ref (1000 + j) :: st) u h Q := by
  intro p e R s m args below meth c H locs Ls hC hW hS' hL
  obtain ⟨q1, rfl⟩ := q
  have kk := kk p e R s m args below meth c H locs Ls hC hW hS' hL
  simp only [List.map_cons, ph_rk] at kk ⊢
  exact va_ti hC.1 hC.2.1 (hC.2.2.2.2.2.2.2.2.1.2.2.2.1.1 j cq hc).2 hS' hin rfl q1 kk
theorem wq_scr {i : Int32} (q : qD k pc .iaload 1 npc) (hin : vp_in i (gN G)) (kk : wq G B d k npc ls (.int (gX G i.toNatClampNeg) :: st) u h Q) : wq G B d k pc ls (.int i :: .ref (1000 + 9) :: st) u h Q := by
  intro p e R s m args below meth c H locs Ls hC hW hS' hL
  obtain ⟨q1, rfl⟩ := q
  have kk := kk p e R s m args below meth c H locs Ls hC hW hS' hL
  simp only [List.map_cons, ph_rk] at kk ⊢
  exact va_ti hC.1 hC.2.1 hC.2.2.2.2.2.2.2.2.1.2.2.2.1.2.1 hS' hin rfl q1 kk
theorem wq_scrlen (q : qD k pc .arraylength 1 npc) (kk : wq G B d k npc ls (.int (Int32.ofNat (gN G)) :: st) u h Q) : wq G B d k pc ls (.ref (1000 + 9) :: st) u h Q := by
  intro p e R s m args below meth c H locs Ls hC hW hS' hL
  obtain ⟨q1, rfl⟩ := q
  have kk := kk p e R s m args below meth c H locs Ls hC hW hS' hL
  simp only [List.map_cons, ph_rk] at kk ⊢
  exact va_tlen hC.1 hC.2.1 hC.2.2.2.2.2.2.2.2.1.2.2.2.1.2.1 hS' rfl q1 kk
/-- a literal's bytes -/
theorem wq_strb {j : Nat} {i : Int32} (q : qD k pc .baload 1 npc) (hj : j < 8) (hin : vp_in i (cLen.getD j 0)) (kk : wq G B d k npc ls (.int ((cByt.getD j []).getD i.toNatClampNeg 0) :: st) u h Q) : wq G B d k pc ls (.int i :: .ref (1000 + (40 + j)) :: st) u h Q := by
  intro p e R s m args below meth c H locs Ls hC hW hS' hL
  obtain ⟨q1, rfl⟩ := q
  have kk := kk p e R s m args below meth c H locs Ls hC hW hS' hL
  simp only [List.map_cons, ph_rk] at kk ⊢
  exact va_tb hC.1 hC.2.1 (hC.2.2.2.2.2.2.2.2.1.2.2.2.1.2.2.1.1 j hj).2.2.2 hS' hin rfl q1 kk
theorem wq_strl {j : Nat} (q : qD k pc .arraylength 1 npc) (hj : j < 8) (kk : wq G B d k npc ls (.int (Int32.ofNat (cLen.getD j 0)) :: st) u h Q) : wq G B d k pc ls (.ref (1000 + (40 + j)) :: st) u h Q := by
  intro p e R s m args below meth c H locs Ls hC hW hS' hL
  obtain ⟨q1, rfl⟩ := q
  have kk := kk p e R s m args below meth c H locs Ls hC hW hS' hL
  simp only [List.map_cons, ph_rk] at kk ⊢
  exact va_tlen hC.1 hC.2.1 (hC.2.2.2.2.2.2.2.2.1.2.2.2.1.2.2.1.1 j hj).2.2.2 hS' rfl q1 kk
theorem wq_strv {j x wi : Nat} (q : qD k pc (.getfield x) 3 npc ∧ inG wi (.fieldLink (mN k).cls x "java/lang/String" "value" "[B")) (hj : j < 8) (kk : wq G B d k npc ls (.ref (1000 + (40 + j)) :: st) u h Q) : wq G B d k pc ls (.ref (1000 + (20 + j)) :: st) u h Q := by
  intro p e R s m args below meth c H locs Ls hC hW hS' hL
  obtain ⟨⟨q1, rfl⟩, q2⟩ := q
  have kk := kk p e R s m args below meth c H locs Ls hC hW hS' hL
  simp only [List.map_cons, ph_rk] at kk ⊢
  exact vk_getf hC.1 hC.2.1 (hC.2.2.2.2.2.2.2.2.1.2.2.2.1.2.2.1.1 j hj).2.2.1 hS' hC.2.2.2.1 (hC.2.2.2.2.1 _ (inG_mem q2)) (fun _ z => z) q1 kk
theorem wq_strc {j x wi : Nat} (q : qD k pc (.getfield x) 3 npc ∧ inG wi (.fieldLink (mN k).cls x "java/lang/String" "coder" "B")) (hj : j < 8) (kk : wq G B d k npc ls (.int 0 :: st) u h Q) : wq G B d k pc ls (.ref (1000 + (20 + j)) :: st) u h Q := by
  intro p e R s m args below meth c H locs Ls hC hW hS' hL
  obtain ⟨⟨q1, rfl⟩, q2⟩ := q
  have kk := kk p e R s m args below meth c H locs Ls hC hW hS' hL
  simp only [List.map_cons, ph_rk] at kk ⊢
  exact vk_getf hC.1 hC.2.1 (hC.2.2.2.2.2.2.2.2.1.2.2.2.1.2.2.1.1 j hj).2.1 hS' hC.2.2.2.1 (hC.2.2.2.2.1 _ (inG_mem q2)) (fun _ z => z) q1 kk
theorem wq_getS {j x wi : Nat} {cq : String × List Int32} (q : qD k pc (.getstatic x) 3 npc ∧ cS[j]? = some cq ∧ inN wi (.fieldLinkNest (mN k).cls x RX10 cq.1 "[I" "OneWindow")) (kk : wq G B d k npc ls (.ref (1000 + j) :: st) u h Q) : wq G B d k pc ls st u h Q := by
  intro p e R s m args below meth c H locs Ls hC hW hS' hL
  obtain ⟨⟨q1, rfl⟩, q2, q3⟩ := q
  have kk := kk p e R s m args below meth c H locs Ls hC hW hS' hL
  simp only [List.map_cons, ph_rk] at kk
  exact va_getsN hC.1 hC.2.1 (hC.2.2.2.2.2.2.2.2.1.2.2.2.1.1 j cq q2).1 hS' hC.2.2.2.1 (va_Nw.use rfl (hC.2.2.2.2.2.2.2.2.1.2.1 _ (inN_mem q3))) (fun _ z => z) q1 kk
theorem wq_getCS {x wi : Nat} (q : qD k pc (.getstatic x) 3 npc ∧ inG wi (.fieldLink (mN k).cls x RJ0 "COMPACT_STRINGS" "Z")) (kk : wq G B d k npc ls (.int 1 :: st) u h Q) : wq G B d k pc ls st u h Q := by
  intro p e R s m args below meth c H locs Ls hC hW hS' hL
  obtain ⟨⟨q1, rfl⟩, q3⟩ := q
  have kk := kk p e R s m args below meth c H locs Ls hC hW hS' hL
  exact va_gets hC.1 hC.2.1 hC.2.2.2.2.2.2.2.2.1.2.2.2.1.2.2.2.1 hS' hC.2.2.2.1 (hC.2.2.2.2.1 _ (inG_mem q3)) (fun _ z => z) q1 kk
theorem wq_getFm {x wi : Nat} (q : qD k pc (.getstatic x) 3 npc ∧ inG wi (.fieldLink (mN k).cls x RJ3 "SIOOBE_FORMATTER" "Ljava/util/function/BiFunction;")) (kn : wq G B d k npc ls (.null :: st) u h Q) (kk : wq G B d k npc ls (.ref (1000 + 60) :: st) u h Q) : wq G B d k pc ls st u h Q := by
  intro p e R s m args below meth c H locs Ls hC hW hS' hL
  obtain ⟨⟨q1, rfl⟩, q3⟩ := q
  have kn := kn p e R s m args below meth c H locs Ls hC hW hS' hL
  have kk := kk p e R s m args below meth c H locs Ls hC hW hS' hL
  simp only [List.map_cons, ph_rk] at kk
  rcases hC.2.2.2.2.2.2.2.2.1.2.2.2.1.2.2.2.2.2.2 with hz | hz
  · exact va_gets hC.1 hC.2.1 hz hS' hC.2.2.2.1 (hC.2.2.2.2.1 _ (inG_mem q3)) (fun _ z => z) q1 kn
  · exact va_gets hC.1 hC.2.1 hz hS' hC.2.2.2.1 (hC.2.2.2.2.1 _ (inG_mem q3)) (fun _ z => z) q1 kk
/-! switch -/
theorem wq_switch {dflt lo hi : Int} {offs : Array Int} {len tgt : Nat} {x : Int32} (q : qD k pc (.tableswitch dflt lo hi offs) len npc ∧ (pc : Int) + dflt = (tgt : Int) ∧ (hi - lo + 1).toNat = offs.size) (ts : List Nat) (hts : offs.toList.map (fun o => ((pc : Int) + o)) = ts.map (fun (t : Nat) => (t : Int)))
    (kd : (x.toInt < lo ∨ hi < x.toInt) → wq G B d k tgt ls st u h Q) (kt : ∀ (i t : Nat), ts[i]? = some t → x.toInt = lo + i → wq G B d k t ls st u h Q) : wq G B d k pc ls (.int x :: st) u h Q := by
  intro p e R s m args below meth c H locs Ls hC hW hS' hL
  obtain ⟨⟨q1, rfl⟩, q2, q3⟩ := q
  by_cases hx : x.toInt < lo ∨ hi < x.toInt
  · exact lv_tableOut hC.1 hC.2.1 q1 hx q2 (kd hx p e R s m args below meth c H locs Ls hC hW hS' hL)
  · have hx1 : ¬ x.toInt < lo := fun z => hx (Or.inl z)
    have hx2 : ¬ hi < x.toInt := fun z => hx (Or.inr z)
    have hlt : (x.toInt - lo).toNat < offs.size := by omega
    obtain ⟨o, ho⟩ : ∃ o, offs[(x.toInt - lo).toNat]? = some o := ⟨_, Array.getElem?_eq_getElem hlt⟩
    have ho2 : offs.toList[(x.toInt - lo).toNat]? = some o := by rw [Array.getElem?_toList]; exact ho
    have h3 := congrArg (fun l => l[(x.toInt - lo).toNat]?) hts
    simp only [List.getElem?_map, ho2, Option.map_some] at h3
    cases ht : ts[(x.toInt - lo).toNat]? with
    | none => rw [ht] at h3; simp at h3
    | some t =>
      rw [ht] at h3
      simp only [Option.map_some, Option.some.injEq] at h3
      exact lv_tableIn hC.1 hC.2.1 q1 hx1 hx2 ho h3 (kt _ t ht (by omega) p e R s m args below meth c H locs Ls hC hW hS' hL)
end STORES
