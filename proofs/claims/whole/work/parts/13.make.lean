/-! WHAT IS MADE: objects and arrays; a literal's methods; arraycopy out of a constant -/
section MAKE
variable {G : ph_G} {B B' : Nat × Nat} {d k pc npc : Nat} {ls ls' : List (Option Value)} {st : List Value} {u : Nat × Nat} {h : ph_H} {Q : Option Value → ph_H → Prop}
def stN (h : ph_H) (q : Nat × Nat) : ph_H := (h.1, h.2.1 ++ [q], h.2.2.1, h.2.2.2.1, h.2.2.2.2)
def ph_new (h : ph_H) (n : Nat) : Prop := (hS h).length = n ∧ n < 1000 ∧ h.1 = true ∧ (∀ s, hI h n s = 0) ∧ (∀ s, hL h n s = 0) ∧ (∀ s, hR h n s = none)
theorem ph_wsN {n : Nat} {q : Nat × Nat} (hn : (hS h).length = n) : ph_ws G (stN h q) = ph_ws G h ++ [(gB G + n, ph_ce G (stN h q) n)] := by
  subst hn
  have e : (hS (stN h q)).length = (hS h).length + 1 := by simp [stN, hS]
  unfold ph_ws
  rw [e, List.range_succ, List.map_append]
  congr 1
  apply List.map_congr_left
  intro a ha
  have ha' := List.mem_range.mp ha
  have e2 : (hS (stN h q))[a]? = (hS h)[a]? := by
    show (hS h ++ [q])[a]? = _
    rw [List.getElem?_append_left ha']
  simp only [ph_ce, e2]
  rfl
theorem ph_atN {n : Nat} {q : Nat × Nat} (hn : (hS h).length = n) : (hS (stN h q))[n]? = some q := by
  subst hn
  show (hS h ++ [q])[(hS h).length]? = _
  simp
theorem ph_ceNo {n ci N : Nat} (hn : ph_new h n) (hc : ci < 100) : ph_ce G (stN h (ci, N)) n = .inr (ci, (List.range N).map (fun s => ph_fv G (stN h (ci, N)) n (ph_fty ci s) s)) := ph_ce_o (ph_atN hn.1) hc
theorem ph_defV {n : Nat} {q : Nat × Nat} (hn : ph_new h n) (t : FieldType) (s : Nat) (ht : fK t < 3) : ph_fv G (stN h q) n t s = defaultValue t := by
  have h1 : hI (stN h q) n s = 0 := hn.2.2.2.1 s
  have h2 : hL (stN h q) n s = 0 := hn.2.2.2.2.1 s
  have h3 : hR (stN h q) n s = none := hn.2.2.2.2.2 s
  cases t <;> first | (simp only [ph_fv, h1, h2, h3]; rfl) | (simp [fK] at ht)
theorem fK_all : ∀ ci, ci < 12 → ∀ s, s < 48 → fK (ph_fty ci s) < 3 := by decide +kernel
theorem vN_all : ∀ ci, ci < 12 → vN ci ≤ 48 := by decide +kernel
theorem wq_new {x w1 w2 w3 ci n : Nat} (q : qD k pc (.new x) 3 npc ∧ ci < 12 ∧ inG w1 (.classLink (mN k).cls x (vC ci)) ∧ inG w2 (.instantiable (vC ci) (vN ci)) ∧ inG w3 (.initialized (vC ci))) (hn : ph_new h n) (hu : u.1 + 1 ≤ B.1 ∧ u.2 + vN ci ≤ B.2)
    (kk : wq G B d k npc ls (.ref n :: st) (u.1 + 1, u.2 + vN ci) (stN h (ci, vN ci)) Q) : wq G B d k pc ls st u h Q := by
  intro p e R s m args below meth c H locs Ls hC hW hS' hL
  obtain ⟨⟨q1, rfl⟩, hci, q2, q3, q4⟩ := q
  have hts := hC.2.2.2.2.1
  have hR := hC.2.2.2.2.2.2.2.2.2
  have hK := hC.2.2.2.2.2.2.2.2.1.1
  have hKn := hK.1 ci _ (vw_at hci)
  have hsz : H.size = gB G + n := by rw [← hn.1]; exact hW.2.2 hn.2.2.1
  have had : ph_ad G n = gB G + n := if_pos hn.2.1
  refine W.newcK hC.1 hC.2.1 hC.2.2.2.1 (hts _ (inG_mem q2)) (hts _ (inG_mem q3)) (hts _ (inG_mem q4)) rfl q1 (Nat.le_trans hu.1 hR.2.2.1) (Nat.le_trans hu.2 hR.2.2.2) hKn.2.1 rfl fun H1 kC hkC e1 z1 o1 => ?_
  have hk : ∀ (k : Nat) (x : Nat × va_E), (ph_ws G h)[k]? = some x → H1[x.1]? = H[x.1]? := fun k x hx => o1 x.1 ((hW.1 k x hx).lt)
  have hP1 : va_P (gD G) vwCl (ph_ws G (stN h (ci, vN ci))) H1 := by
    rw [ph_wsN hn.1]
    refine (hW.1.kept hk).app (fun j y hy => ?_)
    have hz : j < 1 := (List.getElem?_eq_some_iff.mp hy).1
    rw [show j = 0 by omega] at hy
    cases hy
    rw [ph_ceNo hn (by omega), ← hsz]
    refine ⟨_, vw_at hci, (u_born (ph_fty ci) hts (vws_in hci) hKn hkC e1 (vty_ok hci)).to (fun j hj => ?_)⟩
    have hj2 : j < vN ci := hj
    have h48 := vN_all ci hci
    simp only [vp_V, List.getD_eq_getElem?_getD, List.getElem?_map, List.getElem?_range hj2, Option.map_some, Option.getD_some]
    exact (ph_defV hn _ _ (fK_all ci hci j (by omega))).symm
  have hS1 : va_S (ph_A G) s.heap H1 locs := ⟨Nat.le_trans hS'.1 (by omega), fun x h1 h2 => (o1 x (Nat.lt_of_lt_of_le h1 hS'.1)).trans (hS'.2.1 x h1 h2), hS'.2.2⟩
  have := kk p e R s m args below meth c H1 locs Ls hC ⟨hP1, by simp [stN, hS, hn.1]; have := hn.1; have := hn.2.1; omega, fun _ => by simp [stN, hS]; have := hn.1; simp [hS] at this; omega⟩ hS1 hL
  simp only [List.map_cons, cv, had, ← hsz] at this
  exact this
def kty (kd : Nat) : FieldType := if kd = 100 then .int else if kd = 101 then .byte else if kd = 102 then .boolean else .long
theorem ph_arN {n kd N : Nat} (hn : ph_new h n) (hk : kd = 100 ∨ kd = 101 ∨ kd = 102 ∨ kd = 103) : ph_ce G (stN h (kd, N)) n = .inl (gA G kd, ph_ar G (stN h (kd, N)) n kd N) ∧ vp_cell (gA G kd) (ph_ar G (stN h (kd, N)) n kd N) = arrV (gA G kd) N (fun _ => defaultValue (kty kd)) := by
  have h1 : hI (stN h (kd, N)) n = fun _ => 0 := funext hn.2.2.2.1
  have h2 : hL (stN h (kd, N)) n = fun _ => 0 := funext hn.2.2.2.2.1
  refine ⟨ph_ce_a (ph_atN hn.1) (by omega), ?_⟩
  rcases hk with rfl | rfl | rfl | rfl <;> simp only [ph_ar, h1, h2] <;> rfl
theorem wq_newa {atype : ArrayType} {wi kd n N : Nat} {x : Int32} (q : qD k pc (.newarray atype) 2 npc ∧ (kd = 100 ∨ kd = 101 ∨ kd = 102 ∨ kd = 103) ∧ newarray.typeOf atype = kty kd ∧ inG wi (.arrayClass (kty kd))) (hx : ¬ x < 0 ∧ x.toNatClampNeg = N ∧ N * 8 ≤ 536870912) (hn : ph_new h n) (hu : u.1 + 1 ≤ B.1 ∧ u.2 + N ≤ B.2)
    (kk : wq G B d k npc ls (.ref n :: st) (u.1 + 1, u.2 + N) (stN h (kd, N)) Q) : wq G B d k pc ls (.int x :: st) u h Q := by
  intro p e R s m args below meth c H locs Ls hC hW hS' hL
  obtain ⟨⟨q1, rfl⟩, hkd, hty, q2⟩ := q
  have hts := hC.2.2.2.2.1
  have hR := hC.2.2.2.2.2.2.2.2.2
  have hK := hC.2.2.2.2.2.2.2.2.1.1
  have hsz : H.size = gB G + n := by rw [← hn.1]; exact hW.2.2 hn.2.2.1
  have had : ph_ad G n = gB G + n := if_pos hn.2.1
  have hbytes : N * componentBytes (newarray.typeOf atype) ≤ 536870912 := by
    have hc : componentBytes (newarray.typeOf atype) ≤ 8 := by cases atype <;> decide
    exact Nat.le_trans (Nat.mul_le_mul_left N hc) hx.2.2
  refine va_newaK hC.1 hC.2.1 (by rw [hty]; exact hts _ (inG_mem q2)) rfl q1 rfl hx.1 hx.2.1 hbytes (Nat.le_trans hu.1 hR.2.2.1) (Nat.le_trans hu.2 hR.2.2.2) rfl fun H1 cA e1 z1 o1 hAr hNm => ?_
  rw [hty] at e1 hNm
  have hcA : cA = gA G kd := by
    rcases hkd with rfl | rfl | rfl | rfl
    · exact Option.some.inj (hNm.symm.trans (hK.2 0 _ rfl).2)
    · exact Option.some.inj (hNm.symm.trans (hK.2 1 _ rfl).2)
    · exact Option.some.inj (hNm.symm.trans (hK.2 2 _ rfl).2)
    · exact Option.some.inj (hNm.symm.trans (hK.2 3 _ rfl).2)
  subst hcA
  obtain ⟨g1, g2⟩ := ph_arN (G := G) (N := N) hn hkd
  have hk : ∀ (k : Nat) (x : Nat × va_E), (ph_ws G h)[k]? = some x → H1[x.1]? = H[x.1]? := fun k x hx => o1 x.1 ((hW.1 k x hx).lt)
  have hP1 : va_P (gD G) vwCl (ph_ws G (stN h (kd, N))) H1 := by
    rw [ph_wsN hn.1]
    refine (hW.1.kept hk).app (fun j y hy => ?_)
    have hz : j < 1 := (List.getElem?_eq_some_iff.mp hy).1
    rw [show j = 0 by omega] at hy
    cases hy
    rw [g1, ← hsz]
    show H1[H.size]? = some (vp_cell _ _)
    rw [g2]
    exact e1
  have hS1 : va_S (ph_A G) s.heap H1 locs := ⟨Nat.le_trans hS'.1 (by omega), fun x h1 h2 => (o1 x (Nat.lt_of_lt_of_le h1 hS'.1)).trans (hS'.2.1 x h1 h2), hS'.2.2⟩
  have := kk p e R s m args below meth c H1 locs Ls hC ⟨hP1, by simp [stN, hS]; have := hn.1; simp [hS] at this; have := hn.2.1; omega, fun _ => by simp [stN, hS]; have := hn.1; simp [hS] at this; omega⟩ hS1 hL
  simp only [List.map_cons, cv, had, ← hsz] at this
  exact this
theorem wq_newq {x w1 kd n N : Nat} {y : Int32} {C : String} (q : qD k pc (.anewarray x) 3 npc ∧ ((kd = 104 ∧ C = RX5) ∨ (kd = 105 ∧ C = RX6)) ∧ inG w1 (.classLink (mN k).cls x C)) (hx : ¬ y < 0 ∧ y.toNatClampNeg = N ∧ N * 4 ≤ 536870912) (hn : ph_new h n) (hu : u.1 + 1 ≤ B.1 ∧ u.2 + N ≤ B.2)
    (kk : wq G B d k npc ls (.ref n :: st) (u.1 + 1, u.2 + N) (stN h (kd, N)) Q) : wq G B d k pc ls (.int y :: st) u h Q := by
  intro p e R s m args below meth c H locs Ls hC hW hS' hL
  obtain ⟨⟨q1, rfl⟩, hkd, q2⟩ := q
  have hts := hC.2.2.2.2.1
  have hRm := hC.2.2.2.2.2.2.2.2.2
  have hK := hC.2.2.2.2.2.2.2.2.1
  have hsz : H.size = gB G + n := by rw [← hn.1]; exact hW.2.2 hn.2.2.1
  have had : ph_ad G n = gB G + n := if_pos hn.2.1
  have hAO : va_AO C s := by
    rcases hkd with ⟨-, rfl⟩ | ⟨-, rfl⟩
    · exact hK.2.2.2.2.2.2.1
    · exact hK.2.2.2.2.2.2.2
  obtain ⟨h1, h2, h3⟩ := hx
  subst h2
  refine W.anew hC.1 hC.2.1 hC.2.2.2.1 (hts _ (inG_mem q2)) (va_AO.use hAO) rfl q1 rfl h1 h3 (Nat.le_trans hu.1 hRm.2.2.1) (Nat.le_trans hu.2 hRm.2.2.2) fun cA kA comp f1 f2 f3 f4 => ?_
  generalize hH1 : H.push ({ cls := cA, slots := Array.replicate y.toNatClampNeg .null, vm := .none } : Cell) = H1
  have z1 : H1.size = H.size + 1 := by rw [← hH1, Array.size_push]
  have e1 : H1[H.size]? = some (arrV cA y.toNatClampNeg (fun _ => .null)) := by rw [← hH1, Array.getElem?_push_size, ← arrV_new]
  have o1 : ∀ q : Nat, q < H.size → H1[q]? = H[q]? := fun q hq => by rw [← hH1, Array.getElem?_push, if_neg (Nat.ne_of_lt hq)]
  have hcA : cA = gA G kd := by
    rcases hkd with ⟨rfl, rfl⟩ | ⟨rfl, rfl⟩
    · obtain ⟨_, _, -, -, -, g4⟩ := (hK.1.2 4 _ rfl).2
      exact Option.some.inj (f1.symm.trans g4)
    · obtain ⟨_, _, -, -, -, g4⟩ := (hK.1.2 5 _ rfl).2
      exact Option.some.inj (f1.symm.trans g4)
  subst hcA
  have hk : ∀ (k : Nat) (x : Nat × va_E), (ph_ws G h)[k]? = some x → H1[x.1]? = H[x.1]? := fun k x hx => o1 x.1 ((hW.1 k x hx).lt)
  have hkd2 : 104 ≤ kd := by rcases hkd with ⟨rfl, -⟩ | ⟨rfl, -⟩ <;> omega
  have hP1 : va_P (gD G) vwCl (ph_ws G (stN h (kd, y.toNatClampNeg))) H1 := by
    rw [ph_wsN hn.1]
    refine (hW.1.kept hk).app (fun j y2 hy => ?_)
    have hz : j < 1 := (List.getElem?_eq_some_iff.mp hy).1
    rw [show j = 0 by omega] at hy
    cases hy
    rw [ph_ce_a (ph_atN hn.1) (by omega), ← hsz]
    show H1[H.size]? = some (vp_cell _ _)
    have h5 : hR (stN h (kd, y.toNatClampNeg)) n = fun _ => none := funext hn.2.2.2.2.2
    simp only [ph_ar, if_neg (show ¬ kd < 103 by omega), if_neg (show ¬ kd = 103 by omega), h5]
    rw [vp_cell_q]
    exact e1
  have hS1 : va_S (ph_A G) s.heap H1 locs := ⟨Nat.le_trans hS'.1 (by omega), fun x h1 h2 => (o1 x (Nat.lt_of_lt_of_le h1 hS'.1)).trans (hS'.2.1 x h1 h2), hS'.2.2⟩
  have := kk p e R s m args below meth c H1 locs Ls hC ⟨hP1, by simp [stN, hS]; have := hn.1; simp [hS] at this; have := hn.2.1; omega, fun _ => by simp [stN, hS]; have := hn.1; simp [hS] at this; omega⟩ hS1 hL
  simp only [List.map_cons, cv, had, ← hsz] at this
  exact this
theorem wq_thaw (kk : wq G B d k pc ls st u (false, h.2) Q) : wq G B d k pc ls st u h Q := by
  intro p e R s m args below meth c H locs Ls hC hW hS' hL
  exact kk p e R s m args below meth c H locs Ls hC ⟨hW.1, hW.2.1, fun z => by cases z⟩ hS' hL
theorem ph_setR {a kd n i : Nat} {x : Option Nat} (ha : (hS h)[a]? = some (kd, n)) (hk : 104 ≤ kd) : (ph_ws G h).set a (gB G + a, .inl (gA G kd, n, .inr (.inr (.inr (.inr (va_up (fun j => (hR h a j).map (ph_ad G)) i (x.map (ph_ad G)))))))) = ph_ws G (stR h a i x) := by
  have e : ph_ce G (stR h a i x) a = .inl (gA G kd, n, .inr (.inr (.inr (.inr (va_up (fun j => (hR h a j).map (ph_ad G)) i (x.map (ph_ad G))))))) := by
    rw [ph_ce_a (h := stR h a i x) ha (by omega)]
    simp only [ph_ar, if_neg (show ¬ kd < 103 by omega), if_neg (show ¬ kd = 103 by omega), stR, hR, up2_s]
    congr 7
    funext j
    by_cases hj : j = i <;> simp [va_up, hj]
  rw [← e]
  exact ph_set rfl (fun b hb => ph_ceR b hb)
theorem wq_aast {a n kd b ci nb : Nat} {i : Int32} (q : qD k pc .aastore 1 npc) (ha : (hS h)[a]? = some (kd, n)) (hk : (kd = 104 ∧ ci = 5) ∨ (kd = 105 ∧ ci = 6)) (hb : (hS h)[b]? = some (ci, nb)) (hin : vp_in i n)
    (kk : wq G B d k npc ls st u (stR h a i.toNatClampNeg (some b)) Q) : wq G B d k pc ls (.ref b :: .int i :: .ref a :: st) u h Q := by
  intro p e R s m args below meth c H locs Ls hC hW hS' hL
  obtain ⟨q1, rfl⟩ := q
  have hK := hC.2.2.2.2.2.2.2.2.1.1
  have hci : ci < 12 := by rcases hk with ⟨-, rfl⟩ | ⟨-, rfl⟩ <;> omega
  have hkd : 104 ≤ kd := by rcases hk with ⟨rfl, -⟩ | ⟨rfl, -⟩ <;> omega
  have hb1 := ph_ad_lt hW hb
  simp only [List.map_cons, ph_ra hW ha, ph_ra hW hb]
  have hat := ph_aR (G := G) ha hkd
  have hbt := ph_at (G := G) hb
  rw [ph_ce_o hb (by omega)] at hbt
  have hlt : i.toNatClampNeg < n := Nat.not_le.mp fun q => hin (Or.inr q)
  have h0 : ¬ i < 0 := fun q => hin (Or.inl q)
  obtain ⟨r', hr', cellV, g1, g2, g3, -⟩ := hW.1 b _ hbt
  have hcls := (hK.1 ci _ (vw_at hci)).2
  obtain ⟨kA, comp, k1, k2, k3, -⟩ : ∃ (kA : Class) (comp : ClassId), s.vm.classes[gA G kd]? = some kA ∧ kA.kind = .array comp (.object (vC ci)) ∧ s.vm.findClass (vC ci) = some comp ∧ s.vm.findClass ("[" ++ (FieldType.object (vC ci)).toString) = some (gA G kd) := by
    rcases hk with ⟨rfl, rfl⟩ | ⟨rfl, rfl⟩
    · exact (hK.2 4 _ rfl).2
    · exact (hK.2 5 _ rfl).2
  have hcomp : comp = (gD G).1 ci := Option.some.inj (k3.symm.trans hcls.1)
  subst hcomp
  obtain ⟨kC, hkC, -⟩ := hcls.2
  refine W.aast hC.1 hC.2.1 (hW.1 a _ hat) (fun q h => by cases h) (fun h => by cases h) k1 k2 rfl hkC ⟨h0, by show _ < (arrV _ _ _).slots.size; rw [arrV_size]; exact hlt⟩ g1 (fun q h => by rw [g3] at h; cases h) (by rw [g2]; exact hkC) (by rw [g2]; exact va_assign hcls) rfl rfl q1 fun H1 e1 z oq => ?_
  have hP1 : va_P (gD G) vwCl (ph_ws G (stR h a i.toNatClampNeg (some b))) H1 := by
    rw [← ph_setR ha hkd]
    refine hW.1.set (ph_D G h) hat ?_ oq
    show H1[gB G + a]? = some (vp_cell _ _)
    rw [e1]
    rw [vp_cell_q, vp_cell_q, arrV_store]
    congr 2
    funext q
    by_cases hq : q = i.toNatClampNeg
    · subst hq
      simp [updV, va_up, va_rf, hb1]
    · simp [updV, va_up, hq]
  exact kk p e R s m args below meth c H1 _ Ls hC ⟨hP1, hW.2.1, fun y => by rw [z]; exact hW.2.2 y⟩ (hS'.put z oq (by show gB G ≤ gB G + a; omega)) hL
/-- a literal's method is called -/
theorem wq_callT {x wi k' ci ni n ii si j : Nat} {As rest : List Value} (q : qD k pc (.invokevirtual x) 3 npc ∧ inG wi (.methodLink (mN k).cls x (mN k')) ∧ mL k' ≤ 41 ∧ (mN k').cls = "java/lang/String") (hm : mI k' ci ni n ii si) (hst : As.reverse ++ .ref (1000 + (20 + j)) :: rest = st) (hn : As.length = n) (hj : j < 8) (hf : ph_fit B B' u rest)
    (kk : Ct G B' d k' (.ref (1000 + (20 + j)) :: As) h (fun r h' => wq G B (d + 1) k npc ls (r.toList ++ rest) (u.1 + B'.1, u.2 + B'.2) h' Q)) : wq G B (d + 1) k pc ls st u h Q := by
  intro p e R s m args below meth c H locs Ls hC hW hS' hL
  obtain ⟨⟨q1, rfl⟩, hl, hlim, hcls⟩ := q
  subst hst
  have hrecv := vk_recv hC.2.2.2.2.2.2.2.2.1.2.2.2.1.2.2.1 hj hS'
  have hpre := ph_pre hC hW hS' (.ref (1000 + (20 + j)) :: As)
  simp only [List.map_cons, ph_rk] at hpre
  simp only [List.map_append, List.map_cons, List.map_reverse, ph_rk]
  have hfx : CallFix p m c (mC k) (mL k) s args gw (mN k).cls := ⟨hC.1, hC.2.1, hC.2.2.1, hC.2.2.2.1, hC.2.2.2.2.1⟩
  rw [← hcls] at hrecv
  have hcat : 2 * (F0 m pc Ls ((As.map (cv G)).reverse ++ Value.ref (gK G (20 + j)) :: rest.map (cv G))).monitorRoom + ((rest.map (cv G)).map fun v => v.category).sum ≤ 8 := by
    rw [ph_cats]; exact lv_room hf.2.2
  have hroom : u.1 + B'.1 ≤ R.cells ∧ u.2 + B'.2 ≤ R.slots := ⟨Nat.le_trans hf.1 hC.2.2.2.2.2.2.2.2.2.2.2.1, Nat.le_trans hf.2.1 hC.2.2.2.2.2.2.2.2.2.2.2.2⟩
  have hins := hC.2.2.2.2.1 _ (inG_mem hm.2.1)
  have hsel := hC.2.2.2.2.1 _ (inG_mem hm.2.2)
  refine ph_back (rest := rest.map (cv G)) (mc := B'.1) (ms := B'.2) (Q1 := fun r h' => wq G B (d + 1) k (pc + 3) ls (r.toList ++ rest) (u.1 + B'.1, u.2 + B'.2) h' Q) (a := (Value.ref (gK G (20 + j)) :: As.map (cv G)).toArray) ?_ hS' (fun r h1 H1 locs1 hq hw1 hS1 => ?_)
  rotate_left
  · have := hq p e R s m args below meth c H1 locs1 Ls hC hw1 hS1 hL
    rw [List.map_append] at this
    cases r <;> exact this
  · exact va_runV hfx kk ⟨ph_cb hC hm.1 (hC.2.2.2.2.1 _ (inG_mem hl)) hlim, hins, hsel⟩ ⟨ph_blind, hrecv, hpre⟩ rfl (by rw [List.length_map]; exact hn) hL.1 rfl hcat q1 hroom
end MAKE
