/-! WHAT THROWS: the class's prisoner; and the law's helper, which catches it -/
abbrev NSE : String := "java/util/NoSuchElementException"
abbrev NSP : List String := ["java/lang/RuntimeException", "java/lang/Exception"]
abbrev c_nse : ByteArray := ⟨#[0x2a, 0x2b, 0xb7, 0x00, 0x0d, 0xb1]⟩
theorem d_nse : decode c_nse 0 = .ok (.aload_n 0, 1) ∧ decode c_nse 1 = .ok (.aload_n 1, 1) ∧ decode c_nse 2 = .ok (.invokespecial 13, 3) ∧ decode c_nse 5 = .ok (.return_, 1) := by decide +kernel
def ph_X (G : ph_G) (h : ph_H) : String → State → State → Prop := fun E st t => E = NSE ∧ ph_Wd G h t.heap ∧ va_F (ph_A G) st t
/-- a method that throws, and leaves the picture as it was -/
def CtX (G : ph_G) (d k : Nat) (as : List Value) (h : ph_H) : Prop :=
  vx_Met (gL G) (mN k) (ph_w k) (ph_R d (1, 6)) (ph_P G as h) (ph_Q G (fun _ _ => False)) (ph_X G h) 1 6 (ph_A G)
def wx (G : ph_G) (d k pc : Nat) (ls : List (Option Value)) (st : List Value) (h : ph_H) : Prop :=
  ∀ (p : Program) (e : Env) (R : Room) (s : State) (m : MethodId) (args : Array Value) (below : List Frame) (meth : Method) (c : Code) (H : Heap) (locs : List Loc) (Ls : Array Slot),
    ph_Cx G (1, 6) d k p R s m args meth c → (∀ x ∈ c.exceptionTable.toList, False) → ph_Wd G h H → va_S (ph_A G) s.heap H locs → ph_L G ls (mL k) Ls →
    W p (gL G) e R s m args below meth c H locs 0 0 (vx_MQ below (ph_Q G (fun _ _ => False)) (ph_X G h) args s 1 6 (ph_A G)) (F0 m pc Ls (st.map (cv G)))
theorem CtX_of {G : ph_G} {d k : Nat} {as : List Value} {h : ph_H} {ls : List (Option Value)} (hy : plainName (mN k).cls = true) (hn : (as.flatMap (fun v => if v.category = 2 then [some v, none] else [some v])).length ≤ mL k) (he : ph_en (mL k) as = ls)
    (hw : wx G d k 0 ls [] h) : CtX G d k as h := by
  refine vx_ofW (cc := mC k) (maxL := mL k) (ret := mR k) hy rfl ?_
  intro p e s m args below meth c s₁ Bd hml hex hv
  obtain ⟨rfl, hWd, hK⟩ := hv
  have hts := atoms_spec (ws := ph_w k) Bd.pre
  rw [lg_entry_eq]
  subst he
  exact hw p e (ph_R d (1, 6)) s m _ below meth c s.heap [] _ ⟨Bd.exec, Bd.bytes, hml, findClass_of_methodNamed Bd.named, fun w hw => hts w (List.mem_cons_of_mem _ hw), Bd.returns, Bd.notSynchronized, (name_of_methodNamed Bd.named Bd.method).1, hK, Nat.le_refl _, Nat.le_refl _, Nat.le_refl _, Nat.le_refl _⟩ hex hWd va_S.rf (ph_en_L hn)
theorem at_in : ∀ w ∈ vx_atSX RX10 166 NSE 13 c_nse NSP, w ∈ lw_tbl ∧ (goodWord w || isNw w) = true := by decide +kernel
theorem at_ot : ∀ w ∈ Cond.classLink RX10 162 NSE :: Cond.initialized NSE :: vx_atSX RX10 166 NSE 13 c_nse NSP, vx_ot w = true := by decide +kernel
theorem at_lk : inG 1190 (.classLink RX10 162 NSE) ∧ inG 134 (.initialized NSE) := by decide +kernel
theorem at_ft : Bundle.fit NSE = true ∧ ∀ n ∈ NSP, Bundle.fit n = true := by decide +kernel
section WX
variable {G : ph_G} {d k pc npc : Nat} {ls : List (Option Value)} {st : List Value} {h : ph_H}
theorem wx_aload_n {j : Fin 4} {i x : Nat} (q : qD k pc (.aload_n j) 1 npc ∧ (j : Nat) = i) (hl : ls[i]? = some (some (.ref x))) (kk : wx G d k npc ls (.ref x :: st) h) : wx G d k pc ls st h := by
  intro p e R s m args below meth c H locs Ls hC hE hW hS hL
  obtain ⟨⟨q1, rfl⟩, q2⟩ := q
  exact lv_aload_n hC.1 hC.2.1 q1 q2 (hL.2.2 _ _ hl) (kk p e R s m args below meth c H locs Ls hC hE hW hS hL)
theorem wx_iload_n {j : Fin 4} {i : Nat} {x : Int32} (q : qD k pc (.iload_n j) 1 npc ∧ (j : Nat) = i) (hl : ls[i]? = some (some (.int x))) (kk : wx G d k npc ls (.int x :: st) h) : wx G d k pc ls st h := by
  intro p e R s m args below meth c H locs Ls hC hE hW hS hL
  obtain ⟨⟨q1, rfl⟩, q2⟩ := q
  exact lv_iload_n hC.1 hC.2.1 q1 q2 (hL.2.2 _ _ hl) (kk p e R s m args below meth c H locs Ls hC hE hW hS hL)
theorem wx_if_ne {off : Int} {tgt : Nat} {x : Int32} (q : qJ k pc (.ifCond .ne off) npc off tgt) (kt : ¬ x = 0 → wx G d k tgt ls st h) (kf : x = 0 → wx G d k npc ls st h) : wx G d k pc ls (.int x :: st) h := by
  intro p e R s m args below meth c H locs Ls hC hE hW hS hL
  obtain ⟨q1, rfl, q3⟩ := q
  exact lv_if_ne hC.1 hC.2.1 q1 q3 (fun z => kt z p e R s m args below meth c H locs Ls hC hE hW hS hL) (fun z => kf z p e R s m args below meth c H locs Ls hC hE hW hS hL)
theorem wx_switchD {dflt lo hi : Int} {offs : Array Int} {len tgt : Nat} {x : Int32} (q : qD k pc (.tableswitch dflt lo hi offs) len npc ∧ (pc : Int) + dflt = (tgt : Int) ∧ (hi - lo + 1).toNat = offs.size) (hx : x.toInt < lo ∨ hi < x.toInt) (kd : wx G d k tgt ls st h) : wx G d k pc ls (.int x :: st) h := by
  intro p e R s m args below meth c H locs Ls hC hE hW hS hL
  obtain ⟨⟨q1, rfl⟩, q2, q3⟩ := q
  exact lv_tableOut hC.1 hC.2.1 q1 hx q2 (kd p e R s m args below meth c H locs Ls hC hE hW hS hL)
theorem wx_callV {x wi k' ci ni n ii si b cb nb : Nat} {As rest : List Value} (q : qD k pc (.invokevirtual x) 3 npc ∧ qI k x k' wi) (hm : mI k' ci ni n ii si) (hst : As.reverse ++ .ref b :: rest = st) (hn : As.length = n) (hb : (hS h)[b]? = some (cb, nb)) (hcb : cb < 12 ∧ vC cb = (mN k').cls) (hf : (rest.map fun v => v.category).sum ≤ 8)
    (kk : Ct G (0, 0) d k' (.ref b :: As) h (fun r h' => h' = h ∧ wx G (d + 1) k npc ls (r.toList ++ rest) h)) : wx G (d + 1) k pc ls st h := by
  intro p e R s m args below meth c H locs Ls hC hE hW hS' hL
  obtain ⟨⟨q1, rfl⟩, hl, hlim⟩ := q
  subst hst
  have hat := ph_at (G := G) hb
  rw [ph_ce_o hb (by omega)] at hat
  have hrecv := va_recv hC.2.2.2.2.2.2.2.2.1.1 hW.1 (vw_at hcb.1) hat
  have hpre := ph_pre hC hW hS' (.ref b :: As)
  have hra := ph_ra hW hb
  simp only [List.map_cons, hra] at hpre
  simp only [List.map_append, List.map_cons, List.map_reverse, hra]
  have hfx : CallFix p m c (mC k) (mL k) s args gw (mN k).cls := ⟨hC.1, hC.2.1, hC.2.2.1, hC.2.2.2.1, hC.2.2.2.2.1⟩
  rw [hcb.2] at hrecv
  have hcat : 2 * (F0 m pc Ls ((As.map (cv G)).reverse ++ Value.ref (gB G + b) :: rest.map (cv G))).monitorRoom + ((rest.map (cv G)).map fun v => v.category).sum ≤ 8 := by
    rw [ph_cats]; exact lv_room hf
  have hroom : 0 + 0 ≤ R.cells ∧ 0 + 0 ≤ R.slots := ⟨Nat.zero_le _, Nat.zero_le _⟩
  have hins := hC.2.2.2.2.1 _ (inG_mem hm.2.1)
  have hsel := hC.2.2.2.2.1 _ (inG_mem hm.2.2)
  refine ph_back (rest := rest.map (cv G)) (mc := 0) (ms := 0) (Q1 := fun r h' => h' = h ∧ wx G (d + 1) k (pc + 3) ls (r.toList ++ rest) h) (a := (Value.ref (gB G + b) :: As.map (cv G)).toArray) ?_ hS' (fun r h1 H1 locs1 hq hw1 hS1 => ?_)
  rotate_left
  · rw [hq.1] at hw1
    have := hq.2 p e R s m args below meth c H1 locs1 Ls hC hE hw1 hS1 hL
    rw [List.map_append] at this
    cases r <;> exact this
  · rcases hl with hl | hl
    · exact va_runV hfx kk ⟨ph_cb hC hm.1 (hC.2.2.2.2.1 _ (inG_mem hl)) hlim, hins, hsel⟩ ⟨ph_blind, hrecv, hpre⟩ rfl (by rw [List.length_map]; exact hn) hL.1 rfl hcat q1 hroom
    · exact va_runVN hfx kk ⟨ph_cn hC hm.1 (hC.2.2.2.2.2.2.2.2.1.2.1 _ (inN_mem hl)) hlim, hins, hsel⟩ ⟨ph_blind, hrecv, hpre⟩ rfl (by rw [List.length_map]; exact hn) hL.1 rfl hcat q1 hroom
theorem at_all {p : Program} {R : Room} {s : State} {m : MethodId} {args : Array Value} {meth : Method} {c : Code} {B : Nat × Nat} (hC : ph_Cx G B d k p R s m args meth c) : ∀ w ∈ vx_atSX RX10 166 NSE 13 c_nse NSP, w.before args s = true := by
  intro w hw
  obtain ⟨h1, h2⟩ := at_in w hw
  rcases Bool.or_eq_true_iff.mp h2 with h2 | h2
  · exact hC.2.2.2.2.1 _ (List.mem_filter.mpr ⟨h1, h2⟩)
  · have h3 : w ∈ nw := List.mem_filter.mpr ⟨h1, h2⟩
    exact va_Nw.use (nw_tabs h3) (hC.2.2.2.2.2.2.2.2.1.2.1 w h3)
theorem wx_throw {is i j : Nat} {tx : String} (hfr : h.1 = false) (hcr : cR[j]? = some (RX10, is, tx, i)) (d0 : decode (mC 95) pc = .ok (.new 162, 3)) (d3 : decode (mC 95) (pc + 3) = .ok (.dup, 1)) (d4 : decode (mC 95) (pc + 4) = .ok (.ldc is, 2)) (d6 : decode (mC 95) (pc + 6) = .ok (.invokespecial 166, 3)) (d9 : decode (mC 95) (pc + 9) = .ok (.athrow, 1)) : wx G (d + 6) 95 pc ls [] h := by
  intro p e R s m args below meth c H locs Ls hC hE hW hS hL
  have hK := hC.2.2.2.2.2.2.2.2.1
  have hts := hC.2.2.2.2.1
  have hR := hC.2.2.2.2.2.2.2.2.2
  refine vx_throwSX (rest := []) (A := ph_A G) (own := RX10) (cls := NSE) (text := tx) (names := NSP) (ik := 162) (is := is) (ic := 166) (sa := gK G (20 + i)) hC.1 hC.2.1 hK.2.2.2.2.2.1 d_nse.1 d_nse.2.1 d_nse.2.2.1 d_nse.2.2.2 hC.2.2.2.1 at_ft.1 at_ft.2 (hts _ (inG_mem at_lk.1)) (hts _ (inG_mem at_lk.2)) (hK.2.2.1 j _ hcr) (at_all hC) at_ot hK.2.2.2.1.2.2.2.2.1 hK.2.2.2.1.2.2.2.2.2.1 hS (hL.1.trans hC.2.2.1.symm) d0 d3 d4 d6 d9 (fun x hx => absurd (hE x hx) id) ?_ ?_ ?_ ?_ hC.2.2.2.2.2.2.1 (fun t _ hz hq => ⟨rfl, ⟨hW.1.kept (fun k x hx => hq x.1 ((hW.1 k x hx).lt)), hW.2.1, fun z => by rw [hfr] at z; cases z⟩, ⟨Nat.le_trans hS.1 hz, fun a h1 h2 => (hq a (Nat.lt_of_lt_of_le h1 hS.1)).trans (hS.2.1 a h1 h2)⟩⟩) hS.2.2 (Nat.le_refl _) (Nat.le_refl _)
  · have := hR.1
    show 2 + 3 < R.frames
    omega
  · have := hR.2.1
    show 0 + (13 * (2 + 1) + 43) ≤ R.locals
    omega
  · exact hR.2.2.1
  · exact hR.2.2.2
end WX
theorem d95_8 : decode (mC 95) 8 = .ok (.new 162, 3) ∧ decode (mC 95) 11 = .ok (.dup, 1) ∧ decode (mC 95) 12 = .ok (.ldc 164, 2) ∧ decode (mC 95) 14 = .ok (.invokespecial 166, 3) ∧ decode (mC 95) 17 = .ok (.athrow, 1) := by decide +kernel
theorem d95_142 : decode (mC 95) 142 = .ok (.new 162, 3) ∧ decode (mC 95) 145 = .ok (.dup, 1) ∧ decode (mC 95) 146 = .ok (.ldc 185, 2) ∧ decode (mC 95) 148 = .ok (.invokespecial 166, 3) ∧ decode (mC 95) 151 = .ok (.athrow, 1) := by decide +kernel
section THROWS
variable {G : ph_G} {d f dr t n : Nat} {hi : Nat → Nat → Int32} {hl : Nat → Nat → Int64} {Q : Option Value → ph_H → Prop}
theorem inB_no {w : Int32} (h : ¬ inB w 7 = true) : w.toInt < 0 ∨ 6 < w.toInt := by
  by_cases h0 : w.toInt < 0
  · exact Or.inl h0
  · by_cases h6 : 6 < w.toInt
    · exact Or.inr h6
    · refine absurd ?_ h
      simp only [inB, Bool.and_eq_true, decide_eq_true_eq]
      have e0 : (0 : Int32).toInt = 0 := rfl
      have e7 : (7 : Int32).toInt = 7 := rfl
      exact ⟨Int32.le_iff_toInt_le.mpr (by omega), Int32.lt_iff_toInt_lt.mpr (by omega)⟩
theorem c_pris_throws {p w : Int32} (hf : Fok f) (hno : ¬ (inB p (hi f 3) = true ∧ inB w 7 = true)) : CtX G (d + 6) 95 [.ref 0, .int p, .int w] (HP hi hl f dr t) := by
  refine CtX_of (ls := [_, _, _]) m_95.1.2.2.1 (Nat.le_of_ble_eq_true rfl) rfl ?_
  refine wx_aload_n q95_0 rfl ?_
  refine wx_iload_n q95_1 rfl ?_
  refine wx_callV (As := [_]) (rest := []) q95_2 m_103 rfl rfl rfl ⟨by decide, rfl⟩ (Nat.zero_le _) (c_isPrisoner hf ⟨rfl, ?_⟩)
  refine wx_if_ne q95_5 (fun c5 => ?_) (fun c5 => ?_)
  · have hp : inB p (hi f 3) = true := by
      by_cases z : inB p (hi f 3) = true
      · exact z
      · exact absurd (if_neg z) c5
    refine wx_iload_n q95_18 rfl ?_
    refine wx_switchD q95_19 (inB_no (fun z => hno ⟨hp, z⟩)) ?_
    exact wx_throw (j := 6) rfl rfl d95_142.1 d95_142.2.1 d95_142.2.2.1 d95_142.2.2.2.1 d95_142.2.2.2.2
  · exact wx_throw (j := 5) rfl rfl d95_8.1 d95_8.2.1 d95_8.2.2.1 d95_8.2.2.2.1 d95_8.2.2.2.2
end THROWS
