/-! CALLS -/
theorem ph_good {k ci : Nat} (h : inG ci (.code (mN k) (mC k) (mL k) (mR k))) : GoodIn gw (ph_w k) := by
  have key : ∀ w ∈ gw, w ∈ gw ∧ ((w.onTables && w.keeps) = true ∨ ∃ ty, w = .arrayClass ty) := fun w hw => ⟨hw, good_of_word (List.mem_filter.mp hw).2⟩
  intro w hw
  rcases List.mem_cons.mp hw with rfl | hw
  · exact key _ (inG_mem h)
  · exact key w hw
theorem ph_blind {G : ph_G} {as : List Value} {h : ph_H} : FrameBlind (ph_P G as h) := fun a U g mk ⟨h1, h2, h3⟩ => ⟨h1, h2, h3.call g mk a⟩
theorem ph_cats (G : ph_G) (l : List Value) : ((l.map (cv G)).map fun v => v.category).sum = (l.map fun v => v.category).sum := by
  rw [List.map_map]
  congr 1
  apply List.map_congr_left
  intro v _
  exact cv_cat G v
section CALLS
variable {G : ph_G} {B B' : Nat × Nat} {d k pc npc : Nat} {ls ls' : List (Option Value)} {st : List Value} {u : Nat × Nat} {h : ph_H} {Q : Option Value → ph_H → Prop}
/-- behind a call -/
theorem ph_back {p : Program} {e : Env} {R : Room} {s : State} {m : MethodId} {args : Array Value} {below : List Frame} {meth : Method} {c : Code} {H : Heap} {locs : List Loc} {Ls : Array Slot} {rest st0 : List Value} {Qw : State → Prop} {a : Array Value} {Q1 : Option Value → ph_H → Prop} {cells slots mc ms : Nat}
    (hr : va_Run p (gL G) e R s m args below meth c H locs cells slots mc ms (F0 m pc Ls st0) rest (ph_Q G Q1 a) (ph_A G)) (hS : va_S (ph_A G) s.heap H locs)
    (kk : ∀ (r : Option Value) (h1 : ph_H) (H1 : Heap) (locs1 : List Loc), Q1 r h1 → ph_Wd G h1 H1 → va_S (ph_A G) s.heap H1 locs1 → W p (gL G) e R s m args below meth c H1 locs1 (cells + mc) (slots + ms) Qw (F0 m (pc + 3) Ls ((r.map (cv G)).toList ++ rest))) :
    W p (gL G) e R s m args below meth c H locs cells slots Qw (F0 m pc Ls st0) := by
  intro T hT X
  obtain ⟨v, st₀, t, T', L, h0, X', hL, e1, e2, ⟨⟨r, h1, hq, hv, hw⟩, hz, hk⟩, stp⟩ := hr T hT X
  cases hv
  rw [h0] at hz hk
  obtain ⟨t2, a1, b1⟩ := kk r h1 T'.heap (locs ++ L) hq (by rw [e1]; exact hw) ⟨Nat.le_trans hS.1 (by rw [e1]; exact hz), fun q h1 h2 => by rw [e1, hk q (Nat.lt_of_lt_of_le h1 hS.1) h2]; exact hS.2.1 q h1 h2, fun q hq => by
      rcases List.mem_append.mp hq with h | h
      · exact hS.2.2 q h
      · exact hL q h⟩ T' rfl X'
  exact ⟨t2, stp t2 a1, b1⟩
/-- the callee's start in the caller's heap -/
theorem ph_pre {p : Program} {R : Room} {s : State} {m : MethodId} {args : Array Value} {meth : Method} {c : Code} {H : Heap} {locs : List Loc} (hC : ph_Cx G B d k p R s m args meth c) (hW : ph_Wd G h H) (hS : va_S (ph_A G) s.heap H locs) (as : List Value) : ∀ U : State, U.heap = H → s.WarmedH U.vm → ph_P G as h (as.map (cv G)).toArray U := by
  intro U hU hWm
  refine ⟨rfl, by rw [hU]; exact hW, hC.2.2.2.2.2.2.2.2.1.warm hWm (fun a h1 h2 => ?_) ?_⟩
  · rw [hU]; exact hS.2.1 a h1 h2
  · rw [hU]; exact hS.1
theorem ph_cb {p : Program} {R : Room} {s : State} {m : MethodId} {args : Array Value} {meth : Method} {c : Code} {k' ci ni n x : Nat} (hC : ph_Cx G B (d + 1) k p R s m args meth c) (hm : mB k' ci ni n) (hl : (Cond.methodLink (mN k).cls x (mN k')).before args s = true) (hlim : mL k' ≤ 41) :
    CallB R s args (mN k).cls x (mN k') (mC k') (mL k') (mR k') (ph_w k') (ph_R d B') B'.1 B'.2 n := by
  obtain ⟨-, -, -, -, hts, -, -, -, -, hf, hlo, -⟩ := hC
  exact callB_of n hts (ph_good hm.1) rfl rfl rfl (hts _ (inG_mem hm.2.1)) hl ⟨hm.2.2.2.1, hm.2.2.2.2.1, hm.2.2.2.2.2⟩ ⟨hf, by show 8 + (mL k' + 11) + 60 * d ≤ R.locals; omega⟩
theorem ph_cn {p : Program} {R : Room} {s : State} {m : MethodId} {args : Array Value} {meth : Method} {c : Code} {k' ci ni n x : Nat} (hC : ph_Cx G B (d + 1) k p R s m args meth c) (hm : mB k' ci ni n) (hl : va_Nw (.methodLinkNest (mN k).cls x (mN k') "OneWindow") s) (hlim : mL k' ≤ 41) :
    va_CN R s args (mN k).cls x (mN k') "OneWindow" (mC k') (mL k') (mR k') (ph_w k') (ph_R d B') B'.1 B'.2 n := by
  obtain ⟨-, -, -, -, hts, -, -, -, -, hf, hlo, -⟩ := hC
  exact va_cnB n hts (ph_good hm.1) rfl rfl rfl hl (hts _ (inG_mem hm.2.1)) ⟨hm.2.2.2.1, hm.2.2.2.2.1, hm.2.2.2.2.2⟩ ⟨hf, by show 8 + (mL k' + 11) + 60 * d ≤ R.locals; omega⟩
abbrev qI (k x k' wi : Nat) : Prop := (inG wi (.methodLink (mN k).cls x (mN k')) ∨ inN wi (.methodLinkNest (mN k).cls x (mN k') "OneWindow")) ∧ mL k' ≤ 41
abbrev ph_fit (B B' u : Nat × Nat) (rest : List Value) : Prop := u.1 + B'.1 ≤ B.1 ∧ u.2 + B'.2 ≤ B.2 ∧ (rest.map fun v => v.category).sum ≤ 8
theorem wq_callV {x wi k' ci ni n ii si b cb nb : Nat} {As rest : List Value} (q : qD k pc (.invokevirtual x) 3 npc ∧ qI k x k' wi) (hm : mI k' ci ni n ii si) (hst : As.reverse ++ .ref b :: rest = st) (hn : As.length = n) (hb : (hS h)[b]? = some (cb, nb)) (hcb : cb < 12 ∧ vC cb = (mN k').cls) (hf : ph_fit B B' u rest)
    (kk : Ct G B' d k' (.ref b :: As) h (fun r h' => wq G B (d + 1) k npc ls (r.toList ++ rest) (u.1 + B'.1, u.2 + B'.2) h' Q)) : wq G B (d + 1) k pc ls st u h Q := by
  intro p e R s m args below meth c H locs Ls hC hW hS' hL
  obtain ⟨⟨q1, rfl⟩, hl, hlim⟩ := q
  subst hst
  have hat := ph_at (G := G) hb
  rw [ph_ce_o hb (by omega)] at hat
  have hrecv := va_recv hC.2.2.2.2.2.2.2.2.1.1 hW.1 (vw_at hcb.1) hat
  have hpre := ph_pre hC hW hS' (.ref b :: As)
  have hra := ph_ra hW hb
  simp only [List.map_cons, hra] at hpre
  simp only [List.map_append, List.map_cons, List.map_reverse, hra]
  have hfx : CallFix p m c (mC k) (mL k) s args gw (mN k).cls := ⟨hC.1, hC.2.1, hC.2.2.1, hC.2.2.2.1, hC.2.2.2.2.1⟩
  rw [hcb.2] at hrecv
  have hcat : 2 * (F0 m pc Ls ((As.map (cv G)).reverse ++ Value.ref (gB G + b) :: rest.map (cv G))).monitorRoom + ((rest.map (cv G)).map fun v => v.category).sum ≤ 8 := by
    rw [ph_cats]; exact lv_room hf.2.2
  have hroom : u.1 + B'.1 ≤ R.cells ∧ u.2 + B'.2 ≤ R.slots := ⟨Nat.le_trans hf.1 hC.2.2.2.2.2.2.2.2.2.2.2.1, Nat.le_trans hf.2.1 hC.2.2.2.2.2.2.2.2.2.2.2.2⟩
  have hins := hC.2.2.2.2.1 _ (inG_mem hm.2.1)
  have hsel := hC.2.2.2.2.1 _ (inG_mem hm.2.2)
  refine ph_back (rest := rest.map (cv G)) (mc := B'.1) (ms := B'.2) (Q1 := fun r h' => wq G B (d + 1) k (pc + 3) ls (r.toList ++ rest) (u.1 + B'.1, u.2 + B'.2) h' Q) (a := (Value.ref (gB G + b) :: As.map (cv G)).toArray) ?_ hS' (fun r h1 H1 locs1 hq hw1 hS1 => ?_)
  rotate_left
  · have := hq p e R s m args below meth c H1 locs1 Ls hC hw1 hS1 hL
    rw [List.map_append] at this
    cases r <;> exact this
  · rcases hl with hl | hl
    · exact va_runV hfx kk ⟨ph_cb hC hm.1 (hC.2.2.2.2.1 _ (inG_mem hl)) hlim, hins, hsel⟩ ⟨ph_blind, hrecv, hpre⟩ rfl (by rw [List.length_map]; exact hn) hL.1 rfl hcat q1 hroom
    · exact va_runVN hfx kk ⟨ph_cn hC hm.1 (hC.2.2.2.2.2.2.2.2.1.2.1 _ (inN_mem hl)) hlim, hins, hsel⟩ ⟨ph_blind, hrecv, hpre⟩ rfl (by rw [List.length_map]; exact hn) hL.1 rfl hcat q1 hroom
theorem wq_callS {x wi k' ci ni n ii : Nat} {As rest : List Value} (q : qD k pc (.invokestatic x) 3 npc ∧ qI k x k' wi) (hm : mS k' ci ni n ii) (hst : As.reverse ++ rest = st) (hn : As.length = n) (hf : ph_fit B B' u rest)
    (kk : Ct G B' d k' As h (fun r h' => wq G B (d + 1) k npc ls (r.toList ++ rest) (u.1 + B'.1, u.2 + B'.2) h' Q)) : wq G B (d + 1) k pc ls st u h Q := by
  intro p e R s m args below meth c H locs Ls hC hW hS' hL
  obtain ⟨⟨q1, rfl⟩, hl, hlim⟩ := q
  subst hst
  have hpre := ph_pre hC hW hS' As
  simp only [List.map_append, List.map_reverse]
  have hfx : CallFix p m c (mC k) (mL k) s args gw (mN k).cls := ⟨hC.1, hC.2.1, hC.2.2.1, hC.2.2.2.1, hC.2.2.2.2.1⟩
  have hcat : 2 * (F0 m pc Ls ((As.map (cv G)).reverse ++ rest.map (cv G))).monitorRoom + ((rest.map (cv G)).map fun v => v.category).sum ≤ 8 := by
    rw [ph_cats]; exact lv_room hf.2.2
  have hroom : u.1 + B'.1 ≤ R.cells ∧ u.2 + B'.2 ≤ R.slots := ⟨Nat.le_trans hf.1 hC.2.2.2.2.2.2.2.2.2.2.2.1, Nat.le_trans hf.2.1 hC.2.2.2.2.2.2.2.2.2.2.2.2⟩
  have hins := hC.2.2.2.2.1 _ (inG_mem hm.2)
  refine ph_back (rest := rest.map (cv G)) (mc := B'.1) (ms := B'.2) (Q1 := fun r h' => wq G B (d + 1) k (pc + 3) ls (r.toList ++ rest) (u.1 + B'.1, u.2 + B'.2) h' Q) (a := (As.map (cv G)).toArray) ?_ hS' (fun r h1 H1 locs1 hq hw1 hS1 => ?_)
  rotate_left
  · have := hq p e R s m args below meth c H1 locs1 Ls hC hw1 hS1 hL
    rw [List.map_append] at this
    cases r <;> exact this
  · rcases hl with hl | hl
    · exact va_runS hfx kk ⟨ph_cb hC hm.1 (hC.2.2.2.2.1 _ (inG_mem hl)) hlim, hins⟩ ⟨ph_blind, hpre⟩ rfl (by rw [List.length_map]; exact hn) hL.1 rfl hcat q1 hroom
    · exact va_runSN hfx kk ⟨ph_cn hC hm.1 (hC.2.2.2.2.2.2.2.2.1.2.1 _ (inN_mem hl)) hlim, hins, trivial⟩ ⟨ph_blind, hpre⟩ rfl (by rw [List.length_map]; exact hn) hL.1 rfl hcat q1 hroom
theorem wq_callI {x wi k' ci ni n ii b : Nat} {As rest : List Value} {qb : Nat × Nat} (q : qD k pc (.invokespecial x) 3 npc ∧ qI k x k' wi ∧ mR k' = none) (hm : mU k' ci ni n ii) (hst : As.reverse ++ .ref b :: rest = st) (hn : As.length = n) (hb : (hS h)[b]? = some qb) (hf : ph_fit B B' u rest)
    (kk : Ct G B' d k' (.ref b :: As) h (fun r h' => wq G B (d + 1) k npc ls (r.toList ++ rest) (u.1 + B'.1, u.2 + B'.2) h' Q)) : wq G B (d + 1) k pc ls st u h Q := by
  intro p e R s m args below meth c H locs Ls hC hW hS' hL
  obtain ⟨⟨q1, rfl⟩, ⟨hl, hlim⟩, hvoid⟩ := q
  subst hst
  have hpre := ph_pre hC hW hS' (.ref b :: As)
  have hra := ph_ra hW hb
  simp only [List.map_cons, hra] at hpre
  simp only [List.map_append, List.map_cons, List.map_reverse, hra]
  have hfx : CallFix p m c (mC k) (mL k) s args gw (mN k).cls := ⟨hC.1, hC.2.1, hC.2.2.1, hC.2.2.2.1, hC.2.2.2.2.1⟩
  have hcat : 2 * (F0 m pc Ls ((As.map (cv G)).reverse ++ Value.ref (gB G + b) :: rest.map (cv G))).monitorRoom + ((rest.map (cv G)).map fun v => v.category).sum ≤ 8 := by
    rw [ph_cats]; exact lv_room hf.2.2
  have hroom : u.1 + B'.1 ≤ R.cells ∧ u.2 + B'.2 ≤ R.slots := ⟨Nat.le_trans hf.1 hC.2.2.2.2.2.2.2.2.2.2.2.1, Nat.le_trans hf.2.1 hC.2.2.2.2.2.2.2.2.2.2.2.2⟩
  have hins := hC.2.2.2.2.1 _ (inG_mem hm.2.1)
  refine ph_back (rest := rest.map (cv G)) (mc := B'.1) (ms := B'.2) (Q1 := fun r h' => wq G B (d + 1) k (pc + 3) ls (r.toList ++ rest) (u.1 + B'.1, u.2 + B'.2) h' Q) (a := (Value.ref (gB G + b) :: As.map (cv G)).toArray) ?_ hS' (fun r h1 H1 locs1 hq hw1 hS1 => ?_)
  rotate_left
  · have := hq p e R s m args below meth c H1 locs1 Ls hC hw1 hS1 hL
    rw [List.map_append] at this
    cases r <;> exact this
  · rcases hl with hl | hl
    · have hcb := ph_cb (B' := B') hC hm.1 (hC.2.2.2.2.1 _ (inG_mem hl)) hlim
      rw [hvoid] at hcb
      exact va_runI hfx kk ⟨hcb, hm.2.2, hins⟩ ⟨ph_blind, hpre⟩ rfl (by rw [List.length_map]; exact hn) hL.1 rfl hcat q1 hroom
    · have hcb := ph_cn (B' := B') hC hm.1 (hC.2.2.2.2.2.2.2.2.1.2.1 _ (inN_mem hl)) hlim
      rw [hvoid] at hcb
      exact va_runIN hfx kk ⟨hcb, hm.2.2, hins⟩ ⟨ph_blind, hpre⟩ rfl (by rw [List.length_map]; exact hn) hL.1 rfl hcat q1 hroom
end CALLS
