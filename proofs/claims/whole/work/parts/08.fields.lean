/-- a field's kind: 0 an int or smaller, 1 a long, 2 a reference -/
def fK : FieldType → Nat
  | .long => 1
  | .object _ => 2
  | .array _ => 2
  | .float => 3
  | .double => 3
  | _ => 0
theorem fv0 {G : ph_G} {h : ph_H} {a s : Nat} {t : FieldType} (ht : fK t = 0) : ph_fv G h a t s = .int (hI h a s) := by cases t <;> first | rfl | (simp [fK] at ht)
theorem fv1 {G : ph_G} {h : ph_H} {a s : Nat} {t : FieldType} (ht : fK t = 1) : ph_fv G h a t s = .long (hL h a s) := by cases t <;> first | rfl | (simp [fK] at ht)
theorem fv2 {G : ph_G} {h : ph_H} {a s : Nat} {t : FieldType} (ht : fK t = 2) : ph_fv G h a t s = cv G (va_rf (hR h a s)) := by cases t <;> first | (rw [cv_rf]; rfl) | (simp [fK] at ht)
section HEAP
variable {G : ph_G} {B : Nat × Nat} {d k pc npc : Nat} {ls ls' : List (Option Value)} {st : List Value} {u : Nat × Nat} {h : ph_H} {Q : Option Value → ph_H → Prop}
abbrev qL (k x ci s wi kd : Nat) : Prop := (ci < 12 ∧ s < vN ci ∧ fK (ph_fty ci s) = kd) ∧ (inG wi (.fieldLink (mN k).cls x (vT ci s).1 (vT ci s).2.1 (vT ci s).2.2.1) ∨ inN wi (.fieldLinkNest (mN k).cls x (vT ci s).1 (vT ci s).2.1 (vT ci s).2.2.1 "OneWindow"))
abbrev qG (k pc x npc ci s wi kd : Nat) : Prop := qD k pc (.getfield x) 3 npc ∧ qL k x ci s wi kd
abbrev qP (k pc x npc ci s wi kd : Nat) : Prop := qD k pc (.putfield x) 3 npc ∧ qL k x ci s wi kd ∧ ((vT ci s).2.2.2 = false ∨ ((mN k).name = "<init>" ∧ (vT ci s).1 = (mN k).cls ∧ inG wi (.fieldLink (mN k).cls x (vT ci s).1 (vT ci s).2.1 (vT ci s).2.2.1)))
theorem wq_getV {x ci s wi kd a n : Nat} {v : Value} (q : qG k pc x npc ci s wi kd) (ha : (hS h)[a]? = some (ci, n)) (hn : n = vN ci) (hv : ph_fv G h a (ph_fty ci s) s = cv G v) (kk : wq G B d k npc ls (v :: st) u h Q) : wq G B d k pc ls (.ref a :: st) u h Q := by
  intro p e R s' m args below meth c H locs Ls hC hW hS' hL
  obtain ⟨⟨q1, rfl⟩, ⟨hci, hs, hk⟩, hl⟩ := q
  have kk := kk p e R s' m args below meth c H locs Ls hC hW hS' hL
  have hra : cv G (.ref a) = .ref (gB G + a) := by show Value.ref _ = _; rw [ph_ad_lt hW ha]
  simp only [List.map_cons, hra] at kk ⊢
  have hat := ph_at (G := G) ha
  rw [ph_ce_o ha (by omega)] at hat
  have hf : ((List.range n).map (fun s => ph_fv G h a (ph_fty ci s) s))[s]? = some (cv G v) := by
    rw [List.getElem?_map, List.getElem?_range (by omega), Option.map_some, hv]
  rcases hl with hl | hl
  · exact va_get hC.1 hC.2.1 hC.2.2.2.2.1 (vws_in hci) hC.2.2.2.1 hC.2.2.2.2.2.2.2.2.1.1 hW.1 a hat (vw_at hci) s hs (hC.2.2.2.2.1 _ (inG_mem hl)) (fun _ z => z) hf q1 kk
  · exact va_getN hC.1 hC.2.1 hC.2.2.2.2.1 (vws_in hci) hC.2.2.2.1 hC.2.2.2.2.2.2.2.2.1.1 hW.1 a hat (vw_at hci) s hs (va_Nw.use rfl (hC.2.2.2.2.2.2.2.2.1.2.1 _ (inN_mem hl))) (fun _ z => z) hf q1 kk
theorem wq_getI {x ci s wi a n : Nat} (q : qG k pc x npc ci s wi 0) (ha : (hS h)[a]? = some (ci, n)) (hn : n = vN ci) (kk : wq G B d k npc ls (.int (hI h a s) :: st) u h Q) : wq G B d k pc ls (.ref a :: st) u h Q :=
  wq_getV q ha hn (fv0 q.2.1.2.2) kk
theorem wq_getL {x ci s wi a n : Nat} (q : qG k pc x npc ci s wi 1) (ha : (hS h)[a]? = some (ci, n)) (hn : n = vN ci) (kk : wq G B d k npc ls (.long (hL h a s) :: st) u h Q) : wq G B d k pc ls (.ref a :: st) u h Q :=
  wq_getV q ha hn (fv1 q.2.1.2.2) kk
theorem wq_getR {x ci s wi a n b : Nat} (q : qG k pc x npc ci s wi 2) (ha : (hS h)[a]? = some (ci, n)) (hn : n = vN ci) (hb : hR h a s = some b) (kk : wq G B d k npc ls (.ref b :: st) u h Q) : wq G B d k pc ls (.ref a :: st) u h Q :=
  wq_getV q ha hn ((fv2 q.2.1.2.2).trans (by rw [hb]; rfl)) kk
/-- a field is written: the kit's rows, with the heap's size (its putfield, for a plain field, a nest mate's, a final one in a constructor) -/
theorem ph_putX {p : Program} {l : Launch} {e : Env} {R : Room} {s : State} {m : MethodId} {args : Array Value} {below : List Frame} {meth : Method} {c : Code} {H : Heap} {locs : List Loc} {cells slots : Nat} {Q : State → Prop} {cc : ByteArray} {pc : Nat} {ls : Array Slot} {rest : List Value} {D : va_G} {cl : List vw_C} {A : Nat → Prop} {a : Nat} {tys : List (ClassId × FieldType)} {ws : va_W} {H0 : Heap}
    (hexec : p.tables.exec = Jvm.exec) (hb : c.code = cc) {own C : String} {T : u_T} {N ci index : Nat} {Ts : List Cond} (hts : ∀ w ∈ Ts, w.before args s = true) (hin : ∀ w ∈ u_ws C T N, w ∈ Ts) (ty0 : Nat → FieldType) (hty : ∀ k, k < N → parseFieldDescriptor (T k).2.2.1 = some (ty0 k)) (hnm : ∀ a, a < N → ∀ b, b < N → a ≠ b → (T a).2.1 ≠ (T b).2.1) (hown : s.vm.findClass own = some m.cls) (hK : va_K D cl tys s) (hP : va_P D cl ws H) (hD : va_D A ws) (hS0 : va_S A H0 H locs) (q0 : Nat) {fs : List Value} (he : ws[q0]? = some (a, .inr (ci, fs))) (hc : cl[ci]? = some (C, T, N)) (k : Nat) (hk : k < N) {host : String}
    (hlink : ((T k).2.2.2 = false ∧ ((Cond.fieldLink own index (T k).1 (T k).2.1 (T k).2.2.1).before args s = true ∨ (Cond.fieldLinkNest own index (T k).1 (T k).2.1 (T k).2.2.1 host).before args s = true)) ∨ ((T k).2.2.2 = true ∧ meth.name = "<init>" ∧ (T k).1 = own ∧ (Cond.fieldLink own index (T k).1 (T k).2.1 (T k).2.2.1).before args s = true))
    {ty : FieldType} {v : Value} (hd : parseFieldDescriptor (T k).2.2.1 = some ty) (hn : narrow ty v = v) (hfit : fits ty v = true) (hl : k < fs.length)
    (hdg : decode cc pc = .ok (.putfield index, 3)) (kk : ∀ (H1 : Heap) (locs1 : List Loc), H1.size = H.size → va_P D cl (ws.set q0 (a, .inr (ci, fs.set k v))) H1 → va_S A H0 H1 locs1 → W p l e R s m args below meth c H1 locs1 cells slots Q (F0 m (pc + 3) ls rest)) : W p l e R s m args below meth c H locs cells slots Q (F0 m pc ls (v :: .ref a :: rest)) := by
  have hap := va_apart (own := own) hts hin ty0 hty hnm hK hc
  obtain ⟨r, h1, cell, q1, q2, q3, q4⟩ := hP q0 _ he
  have hr : r = (C, T, N) := Option.some.inj (h1.symm.trans hc)
  subst hr
  obtain ⟨hS, hfc, kC, hkC, hkind⟩ := hK.1 ci _ hc
  obtain ⟨cf, kf, fi, f, hi, hsl⟩ := hS k hk
  have hlay := hts _ (hin _ (u_in_lay hk))
  unfold u_lay at hlay
  have hst := (u_facts hfc hkC (u_lays hts hin hk) hi).1
  have fin : ∀ H' : Heap, H'[a]? = some (cell.setSlot f.slot v) → H'.size = H.size → (∀ q, q ≠ a → H'[q]? = H[q]?) → W p l e R s m args below meth c H' (locs ++ [⟨a, f.slot⟩]) cells slots Q (F0 m (pc + 3) ls rest) := by
    intro H' e1 e2 e3
    rw [hsl] at e1 ⊢
    exact kk H' _ e2 (hP.set hD he ⟨_, hc, t_OB.to (V := updV (vp_V fs) k v) ⟨_, e1, q2, q3, t_set q4 hap hk v⟩ (fun j _ => vp_updV_set hl v j)⟩ e3) (hS0.put e2 e3 (hD.2 q0 _ he))
  rcases hlink with ⟨hfin, hlink⟩ | ⟨hfin, hin2, hdecl, hlink⟩
  · rw [if_neg (by rw [hfin]; decide)] at hlay
    have h6 := u_store hfc hkC hkind hlay hi hd hn hfit
    rcases hlink with hlink | hlink
    · exact W.putK hexec hb (f := f) ⟨hown, hlink, ⟨_, _, _, hi⟩, hst⟩ (by rw [q2]; exact h6) q1 q3 (by rw [hsl]; exact k2_hasslot (q4 k hk)) rfl rfl hdg fin
    · exact va_WputK hexec hb (f := f) hown hlink hi hst (by rw [q2]; exact h6) q1 q3 (by rw [hsl]; exact k2_hasslot (q4 k hk)) rfl rfl hdg fin
  · rw [if_pos hfin] at hlay
    have hcf : m.cls = cf := by
      obtain ⟨_, _, c', _, _, _, -, -, hf', -, -, -, hown2, -⟩ := Cond.laysFinal_spec hlay
      have e1 : c' = cf := by have := hi.symm.trans hf'; simp at this; exact this.1.symm
      rw [hdecl] at hown2
      rw [← e1]; exact Option.some.inj (hown.symm.trans hown2)
    have h6 := u_fits hfc hkC hkind (Or.inr hlay) hi hd hn hfit
    exact W.putFinK hexec hb hown hlink hi hst hcf hin2 (by rw [q2]; exact h6) q1 q3 (by rw [hsl]; exact k2_hasslot (q4 k hk)) rfl rfl hdg fin
/-- a field is written: the heap behind it -/
theorem wq_putV {x ci s wi kd a n : Nat} {v : Value} {h' : ph_H} (q : qP k pc x npc ci s wi kd) (ha : (hS h)[a]? = some (ci, n)) (hn : n = vN ci)
    (hsh : hS h' = hS h) (hf1 : h'.1 = h.1) (ho : ∀ b, b ≠ a → ph_ce G h' b = ph_ce G h b) (hof : ∀ s', s' ≠ s → ph_fv G h' a (ph_fty ci s') s' = ph_fv G h a (ph_fty ci s') s') (hv : ph_fv G h' a (ph_fty ci s) s = cv G v)
    (hnar : narrow (ph_fty ci s) (cv G v) = cv G v) (hfit : fits (ph_fty ci s) (cv G v) = true)
    (kk : wq G B d k npc ls st u h' Q) : wq G B d k pc ls (v :: .ref a :: st) u h Q := by
  intro p e R s0 m args below meth c H locs Ls hC hW hS' hL
  obtain ⟨⟨q1, rfl⟩, ⟨⟨hci, hs, hk⟩, hl⟩, hfin⟩ := q
  subst hn
  have hat := ph_at (G := G) ha
  rw [ph_ce_o ha (by omega)] at hat
  have ha' : (hS h')[a]? = some (ci, vN ci) := by rw [hsh]; exact ha
  have hset : (ph_ws G h).set a (gB G + a, .inr (ci, ((List.range (vN ci)).map (fun s => ph_fv G h a (ph_fty ci s) s)).set s (cv G v))) = ph_ws G h' := by
    rw [ph_fs hof hv, ← ph_ce_o ha' (by omega)]
    exact ph_set hsh ho
  have hlk : ((vT ci s).2.2.2 = false ∧ ((Cond.fieldLink (mN k).cls x (vT ci s).1 (vT ci s).2.1 (vT ci s).2.2.1).before args s0 = true ∨ (Cond.fieldLinkNest (mN k).cls x (vT ci s).1 (vT ci s).2.1 (vT ci s).2.2.1 "OneWindow").before args s0 = true)) ∨ ((vT ci s).2.2.2 = true ∧ meth.name = "<init>" ∧ (vT ci s).1 = (mN k).cls ∧ (Cond.fieldLink (mN k).cls x (vT ci s).1 (vT ci s).2.1 (vT ci s).2.2.1).before args s0 = true) := by
    by_cases hz : (vT ci s).2.2.2 = false
    · refine Or.inl ⟨hz, ?_⟩
      rcases hl with hl | hl
      · exact Or.inl (hC.2.2.2.2.1 _ (inG_mem hl))
      · exact Or.inr (va_Nw.use rfl (hC.2.2.2.2.2.2.2.2.1.2.1 _ (inN_mem hl)))
    · rcases hfin with hfin | ⟨h1, h2, h3⟩
      · exact absurd hfin hz
      · exact Or.inr ⟨by simpa using hz, hC.2.2.2.2.2.2.2.1.trans h1, h2, hC.2.2.2.2.1 _ (inG_mem h3)⟩
  have hra : cv G (.ref a) = .ref (gB G + a) := by show Value.ref _ = _; rw [ph_ad_lt hW ha]
  simp only [List.map_cons, hra]
  refine ph_putX hC.1 hC.2.1 hC.2.2.2.2.1 (vws_in hci) (ph_fty ci) (vty_ok hci) (vnm_ok hci) hC.2.2.2.1 hC.2.2.2.2.2.2.2.2.1.1 hW.1 (ph_D G h) hS' a hat (vw_at hci) s hs hlk (vty_ok hci s hs) hnar hfit (by simp; exact hs) q1 ?_
  intro H1 locs1 hz hP1 hS1
  rw [hset] at hP1
  exact kk p e R s0 m args below meth c H1 locs1 Ls hC ⟨hP1, by rw [hsh]; exact hW.2.1, fun z => by rw [hz, hsh]; exact hW.2.2 (hf1 ▸ z)⟩ hS1 hL
theorem fits_R {t : FieldType} (ht : fK t = 2) (v : Value) (hv : v = .null ∨ ∃ a, v = .ref a) : narrow t v = v ∧ fits t v = true := by
  cases t <;> first | (simp [fK] at ht; done) | (rcases hv with rfl | ⟨a, rfl⟩ <;> exact ⟨rfl, rfl⟩)
theorem wq_putI {x ci s wi a n : Nat} {y : Int32} (q : qP k pc x npc ci s wi 0) (ha : (hS h)[a]? = some (ci, n)) (hn : n = vN ci) (hnar : narrow (ph_fty ci s) (.int y) = .int y) (hfit : fits (ph_fty ci s) (.int y) = true)
    (kk : wq G B d k npc ls st u (stI h a s y) Q) : wq G B d k pc ls (.int y :: .ref a :: st) u h Q := by
  refine wq_putV (h' := stI h a s y) q ha hn rfl rfl (fun b hb => ph_ceI b hb) (fun s' hs' => ph_fvI a _ s' (Or.inr hs')) ?_ hnar hfit kk
  rw [fv0 q.2.1.1.2.2]
  simp only [stI, hI, up2_s, va_up, if_pos, cv]
theorem wq_putL {x ci s wi a n : Nat} {y : Int64} (q : qP k pc x npc ci s wi 1) (ha : (hS h)[a]? = some (ci, n)) (hn : n = vN ci)
    (kk : wq G B d k npc ls st u (stL h a s y) Q) : wq G B d k pc ls (.long y :: .ref a :: st) u h Q := by
  have ht : ph_fty ci s = .long := by
    have := q.2.1.1.2.2
    revert this
    cases ph_fty ci s <;> simp [fK]
  refine wq_putV (h' := stL h a s y) q ha hn rfl rfl (fun b hb => ph_ceL b hb) (fun s' hs' => ph_fvL a _ s' (Or.inr hs')) ?_ (by rw [ht]; rfl) (by rw [ht]; rfl) kk
  rw [fv1 q.2.1.1.2.2]
  simp only [stL, hL, up2_s, va_up, if_pos, cv]
theorem wq_putR {x ci s wi a n b : Nat} (q : qP k pc x npc ci s wi 2) (ha : (hS h)[a]? = some (ci, n)) (hn : n = vN ci)
    (kk : wq G B d k npc ls st u (stR h a s (some b)) Q) : wq G B d k pc ls (.ref b :: .ref a :: st) u h Q := by
  refine wq_putV (h' := stR h a s (some b)) q ha hn rfl rfl (fun b hb => ph_ceR b hb) (fun s' hs' => ph_fvR a _ s' (Or.inr hs')) ?_ (fits_R q.2.1.1.2.2 _ (Or.inr ⟨_, rfl⟩)).1 (fits_R q.2.1.1.2.2 _ (Or.inr ⟨_, rfl⟩)).2 kk
  rw [fv2 q.2.1.1.2.2]
  simp only [stR, hR, up2_s, va_up, if_pos]
  rfl
end HEAP
