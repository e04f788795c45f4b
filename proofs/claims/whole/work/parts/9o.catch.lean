/-! THE LAW'S HELPER: it calls the class's prisoner, and answers whether that threw -/
theorem q325_0 : qD 325 0 (.aload_n 3) 1 1 ∧ ((3 : Fin 4) : Nat) = 3 := by decide +kernel
theorem q325_1 : qD 325 1 (.iconst 0) 1 2 ∧ Int32.ofInt (0) = (0 : Int32) := by decide +kernel
theorem q325_2 : qD 325 2 (.aload_n 0) 1 3 ∧ ((0 : Fin 4) : Nat) = 0 := by decide +kernel
theorem q325_3 : qD 325 3 (.iload_n 1) 1 4 ∧ ((1 : Fin 4) : Nat) = 1 := by decide +kernel
theorem q325_4 : qD 325 4 (.iload_n 2) 1 5 ∧ ((2 : Fin 4) : Nat) = 2 := by decide +kernel
theorem q325_5 : qD 325 5 (.invokevirtual 7) 3 8 ∧ qI 325 7 95 1186 := by decide +kernel
theorem q325_8 : qD 325 8 (.i2l) 1 9 := by decide +kernel
theorem q325_9 : qD 325 9 (.lastore) 1 10 := by decide +kernel
theorem q325_10 : qJ 325 10 (.goto 7) 13 (7) 17 := by decide +kernel
theorem q325_13 : qD 325 13 (.astore 4) 2 15 ∧ 4 < mL 325 := by decide +kernel
theorem q325_15 : qD 325 15 (.iconst 1) 1 16 ∧ Int32.ofInt (1) = (1 : Int32) := by decide +kernel
theorem q325_16 : qD 325 16 (.ireturn) 1 17 ∧ mR 325 = some .int := by decide +kernel
theorem q325_17 : qD 325 17 (.iconst 0) 1 18 ∧ Int32.ofInt (0) = (0 : Int32) := by decide +kernel
theorem q325_18 : qD 325 18 (.ireturn) 1 19 ∧ mR 325 = some .int := by decide +kernel
theorem s325 : inG 1183 (.static (mN 325)) ∧ inG 110 (.initialized (mN 325).cls) := by decide +kernel
theorem l325 : inG 1186 (.methodLink (mN 325).cls 7 (mN 95)) := by decide +kernel
theorem d325_13 : decode (mC 325) 13 = .ok (.astore 4, 2) ∧ decode (mC 325) 15 = .ok (.iconst 1, 1) ∧ decode (mC 325) 16 = .ok (.ireturn, 1) := by decide +kernel
theorem w325 : inG 1185 (.classLink (mN 325).cls 13 NSE) ∧ inN 1192 (.castable NSE NSE) := by decide +kernel
theorem w325c : inG 1184 (.codeWith (mN 325) (mC 325) (mL 325) (mR 325) [(0, 10, 13, 13)]) ∧ inG 1182 (.methodLink (mN 326).cls 42 (mN 325)) := by decide +kernel
abbrev ph_wP : List Cond := .codeWith (mN 325) (mC 325) (mL 325) (mR 325) [(0, 10, 13, 13)] :: gw
def CtP (G : ph_G) (B : Nat × Nat) (d : Nat) (as : List Value) (h : ph_H) (Q : Option Value → ph_H → Prop) : Prop :=
  Met (gL G) (mN 325) ph_wP (ph_R d B) (ph_P G as h) (ph_Q G Q) B.1 B.2 (ph_A G)
theorem CtP_of {G : ph_G} {B : Nat × Nat} {d : Nat} {as : List Value} {h : ph_H} {Q : Option Value → ph_H → Prop} {ls : List (Option Value)} (hn : (as.flatMap (fun v => if v.category = 2 then [some v, none] else [some v])).length ≤ mL 325) (he : ph_en (mL 325) as = ls)
    (hw : ∀ (p : Program) (e : Env) (R : Room) (s : State) (m : MethodId) (args : Array Value) (below : List Frame) (meth : Method) (c : Code) (H : Heap) (locs : List Loc) (Ls : Array Slot),
      ph_Cx G B d 325 p R s m args meth c → c.exceptionTable.toList = tableOf [(0, 10, 13, 13)] → ph_Wd G h H → va_S (ph_A G) s.heap H locs → ph_L G ls (mL 325) Ls →
      W p (gL G) e R s m args below meth c H locs 0 0 (MQ below (ph_Q G Q) args s B.1 B.2 (ph_A G)) (F0 m 0 Ls [])) : CtP G B d as h Q := by
  have key : vx_Met (gL G) (mN 325) ph_wP (ph_R d B) (ph_P G as h) (ph_Q G Q) (fun _ _ _ => False) B.1 B.2 (ph_A G) := by
    refine vx_ofWH (cc := mC 325) (maxL := mL 325) (ret := mR 325) (hh := [(0, 10, 13, 13)]) (by decide +kernel) rfl ?_
    intro p e s m args below meth c s₁ Bd hml hv
    obtain ⟨rfl, hWd, hK⟩ := hv
    have hts := atoms_spec (ws := ph_wP) Bd.pre
    rw [lg_entry_eq]
    subst he
    refine vx_ret ?_
    exact hw p e (ph_R d B) s m _ below meth c s.heap [] _ ⟨Bd.exec, Bd.bytes, hml, findClass_of_methodNamed Bd.named, fun w hw => hts w (List.mem_cons_of_mem _ hw), Bd.returns, Bd.notSynchronized, (name_of_methodNamed Bd.named Bd.method).1, hK, Nat.le_refl _, Nat.le_refl _, Nat.le_refl _, Nat.le_refl _⟩ (vx_table (x := mN 325) Bd (hts _ List.mem_cons_self)) hWd va_S.rf (ph_en_L hn)
  intro p e ha hc hk s m args below hf happ hP htr
  obtain ⟨k, o, h1, h2, h3, hQ⟩ := key p e ha hc hk s m args below hf happ hP htr
  rcases hQ with ⟨a, b⟩ | ⟨q, -, E, ce, L, hF, -⟩
  · exact ⟨k, o, h1, h2, h3, a, b⟩
  · exact absurd hF id
section CATCH
variable {G : ph_G} {d f dr t n : Nat} {hi : Nat → Nat → Int32} {hl : Nat → Nat → Int64} {Q : Option Value → ph_H → Prop}
/-- it doesn't throw -/
theorem c_Lpris_ok {p : Nat} {w : Int32} (hf : Fok f) (hn : n ≤ 7) (hc : hi f 3 = nI n) (hp : p < n) (hw : inB w 7 = true) (hQ : Q (some (.int 0)) (HP hi (up2 hl 79 0 (prV' hi f n p w).toInt64) f dr t)) : CtP G (0, 0) (d + 2) [.ref 0, .int (nI p), .int w, .ref 79] (HP hi hl f dr t) Q := by
  refine CtP_of (ls := [_, _, _, _, _]) (Nat.le_of_ble_eq_true rfl) rfl ?_
  intro p' e R s m args below meth c H locs Ls hC hE hW hS hL
  refine (show wq G (0, 0) (d + 2) 325 0 [some (.ref 0), some (.int (nI p)), some (.int w), some (.ref 79), none] [] (0, 0) (HP hi hl f dr t) Q from ?_) p' e R s m args below meth c H locs Ls hC hW hS hL
  refine wq_aload_n q325_0 rfl ?_
  refine wq_iconst q325_1 ?_
  refine wq_aload_n q325_2 rfl ?_
  refine wq_iload_n q325_3 rfl ?_
  refine wq_iload_n q325_4 rfl ?_
  refine cV (As := [_, _]) q325_5 m_95 rfl rfl rfl ⟨by decide, rfl⟩ rfl (c_prisoner hf hn hc hp hw ?_)
  refine wq_i2l q325_8 ?_
  refine wq_last q325_9 rfl (nI_in' (j := 0) (n := 1) (by decide) (by decide)) rfl ?_
  refine wq_goto q325_10 ?_
  refine wq_iconst q325_17 ?_
  refine rI q325_18 rfl ?_
  exact hQ
/-- it throws -/
theorem c_Lpris_no {p w : Int32} (hf : Fok f) (hno : ¬ (inB p (hi f 3) = true ∧ inB w 7 = true)) (hQ : Q (some (.int 1)) (HP hi hl f dr t)) : CtP G (1, 6) (d + 7) [.ref 0, .int p, .int w, .ref 79] (HP hi hl f dr t) Q := by
  refine CtP_of (ls := [_, _, _, _, _]) (Nat.le_of_ble_eq_true rfl) rfl ?_
  intro p' e R s m args below meth c H locs Ls hC hE hW hSS hL
  have hts := hC.2.2.2.2.1
  have hb : (hS (HP hi hl f dr t))[0]? = some (10, 20) := rfl
  have hat := ph_at (G := G) hb
  rw [ph_ce_o hb (by decide)] at hat
  have hrecv := va_recv hC.2.2.2.2.2.2.2.2.1.1 hW.1 (vw_at (ci := 10) (by decide)) hat
  have hpre := ph_pre hC hW hSS [.ref 0, .int p, .int w]
  have hra := ph_ra hW hb
  simp only [List.map_cons, List.map_nil, hra] at hpre
  have hfx : CallFix p' m c (mC 325) (mL 325) s args gw (mN 325).cls := ⟨hC.1, hC.2.1, hC.2.2.1, hC.2.2.2.1, hC.2.2.2.2.1⟩
  refine lv_aload_n hC.1 hC.2.1 q325_0.1.1 q325_0.2 (hL.2.2 3 (.ref 79) rfl) ?_
  refine lv_iconst hC.1 hC.2.1 q325_1.1.1 q325_1.2 ?_
  refine lv_aload_n hC.1 hC.2.1 q325_2.1.1 q325_2.2 (hL.2.2 0 (.ref 0) rfl) ?_
  refine lv_iload_n hC.1 hC.2.1 q325_3.1.1 q325_3.2 (hL.2.2 1 (.int p) rfl) ?_
  refine lv_iload_n hC.1 hC.2.1 q325_4.1.1 q325_4.2 (hL.2.2 2 (.int w) rfl) ?_
  have hra' : ph_ad G 0 = gB G + 0 := by
    have := hra
    simp only [cv, Value.ref.injEq] at this
    exact this
  rw [hra']
  have hl7 : (Cond.methodLink (mN 325).cls 7 (mN 95)).before args s = true := hts _ (inG_mem l325)
  have hr : vx_Run p' (gL G) e R s m args below meth c H locs 0 0 1 6 (F0 m 5 Ls [.int w, .int p, .ref (gB G + 0), .int 0, .ref (ph_ad G 79)]) [.int 0, .ref (ph_ad G 79)] (ph_Q G (fun _ _ => False) (Value.ref (gB G + 0) :: [Value.int p, Value.int w]).toArray) (ph_X G (HP hi hl f dr t)) (ph_A G) :=
    vx_runV (As := [.int p, .int w]) hfx (c_pris_throws (d := d) hf hno) ⟨ph_cb (B' := (1, 6)) hC m_95.1 hl7 (by decide), hts _ (inG_mem m_95.2.1), hts _ (inG_mem m_95.2.2)⟩ ⟨ph_blind, hrecv, hpre⟩ rfl rfl hL.1 rfl (lv_room (Nat.le_of_ble_eq_true rfl)) q325_5.1.1 ⟨hC.2.2.2.2.2.2.2.2.2.2.2.1, hC.2.2.2.2.2.2.2.2.2.2.2.2⟩
  intro T hT X
  rcases hr T hT X with ⟨v, st₀, t1, T', L, h0, X', hL', e1, e2, ⟨⟨r, h1, hq, -⟩, -⟩, stp⟩ | ⟨q, st₀, t1, T', L, E, ce, h0, X', hL', e1, e2, ⟨hE', hw1, hF⟩, hce, hcv, hcl, stp⟩
  · exact absurd hq id
  · subst hE'
    have hS1 : va_S (ph_A G) s.heap T'.heap (locs ++ L) := (vx_keep h0 e1 hSS (fun _ _ z => z) (fun _ z => z) hL' hF).2.2
    have hw2 : ph_Wd G (HP hi hl f dr t) T'.heap := by rw [e1]; exact hw1
    have hk : vx_W p' (gL G) e R s m args below meth c T'.heap (locs ++ L) (0 + 1) (0 + 6) (MQ below (ph_Q G Q) args s 1 6 (ph_A G)) (F0 m 5 Ls [.int 0, .ref (ph_ad G 79)]) q := by
      refine vx_catch (own := (mN 325).cls) (name := NSE) (E := NSE) hC.2.2.2.1 [] ⟨0, 10, 13, 13⟩ [] hE (fun z hz => by cases hz) (by decide) (by decide) (hts _ (inG_mem w325.1)) (va_Nw.use rfl (hC.2.2.2.2.2.2.2.2.1.2.1 _ (inN_mem w325.2))) (by rw [e1]; exact hce) hcv hcl ?_
      refine lv_astore hC.1 hC.2.1 d325_13.1 hL.has (by decide) rfl (fun ls' _ => ?_)
      refine lv_iconst hC.1 hC.2.1 d325_13.2.1 (v := 1) (by decide) ?_
      exact W.zret (ty := .int) hC.1 hC.2.1 (hC.2.2.2.2.2.1.trans q325_18.2) rfl (fun t2 ht _ => ⟨⟨_, _, hQ, rfl, by rw [ht]; exact hw2⟩, hS1.F ht⟩) (fun z hz => hS1.2.2 z hz) d325_13.2.2 hC.2.2.2.2.2.2.1
    obtain ⟨t2, a1, b1⟩ := hk T' rfl X'
    exact ⟨t2, stp.trans a1, b1⟩
end CATCH
theorem goodP : GoodIn gw (va_wsS (mN 326).cls 42 (mN 325) ph_wP) := by
  have key : ∀ w ∈ gw, w ∈ gw ∧ ((w.onTables && w.keeps) = true ∨ ∃ ty, w = .arrayClass ty) := fun w hw => ⟨hw, good_of_word (List.mem_filter.mp hw).2⟩
  intro w hw
  rcases List.mem_append.mp hw with hw | hw
  · rcases List.mem_cons.mp hw with rfl | hw
    · exact key _ (inG_mem w325c.2)
    · rcases List.mem_cons.mp hw with rfl | hw
      · exact key _ (inG_mem s325.1)
      · rcases List.mem_cons.mp hw with rfl | hw
        · exact key _ (inG_mem s325.2)
        · cases hw
  · rcases List.mem_cons.mp hw with rfl | hw
    · exact key _ (inG_mem w325c.1)
    · exact key w hw
section CALLP
variable {G : ph_G} {B B' : Nat × Nat} {d : Nat} {ls : List (Option Value)} {st : List Value} {u : Nat × Nat} {h : ph_H} {Q : Option Value → ph_H → Prop}
theorem wq_callP {As rest : List Value} (hst : As.reverse ++ rest = st) (hn : As.length = 4) (hf : ph_fit B B' u rest)
    (kk : CtP G B' d As h (fun r h' => wq G B (d + 1) 326 442 ls (r.toList ++ rest) (u.1 + B'.1, u.2 + B'.2) h' Q)) : wq G B (d + 1) 326 439 ls st u h Q := by
  intro p e R s m args below meth c H locs Ls hC hW hS' hL
  subst hst
  have hpre := ph_pre hC hW hS' As
  simp only [List.map_append, List.map_reverse]
  have hfx : CallFix p m c (mC 326) (mL 326) s args gw (mN 326).cls := ⟨hC.1, hC.2.1, hC.2.2.1, hC.2.2.2.1, hC.2.2.2.2.1⟩
  have hcat : 2 * (F0 m 439 Ls ((As.map (cv G)).reverse ++ rest.map (cv G))).monitorRoom + ((rest.map (cv G)).map fun v => v.category).sum ≤ 8 := by
    rw [ph_cats]; exact lv_room hf.2.2
  have hroom : u.1 + B'.1 ≤ R.cells ∧ u.2 + B'.2 ≤ R.slots := ⟨Nat.le_trans hf.1 hC.2.2.2.2.2.2.2.2.2.2.2.1, Nat.le_trans hf.2.1 hC.2.2.2.2.2.2.2.2.2.2.2.2⟩
  have hR := hC.2.2.2.2.2.2.2.2.2
  refine ph_back (rest := rest.map (cv G)) (mc := B'.1) (ms := B'.2) (Q1 := fun r h' => wq G B (d + 1) 326 442 ls (r.toList ++ rest) (u.1 + B'.1, u.2 + B'.2) h' Q) (a := (As.map (cv G)).toArray) ?_ hS' (fun r h1 H1 locs1 hq hw1 hS1 => ?_)
  rotate_left
  · have := hq p e R s m args below meth c H1 locs1 Ls hC hw1 hS1 hL
    rw [List.map_append] at this
    cases r <;> exact this
  · refine vx_runSW (n := 4) hfx kk (vx_cwSW 4 hC.2.2.2.2.1 goodP rfl rfl rfl ⟨by decide +kernel, by decide +kernel, by decide +kernel⟩ ⟨hR.1, ?_⟩) ⟨ph_blind, hpre⟩ rfl (by rw [List.length_map]; exact hn) hL.1 rfl hcat q326_439.1.1 hroom
    have h5 : mL 325 = 5 := rfl
    have := hR.2.1
    show 8 + (mL 325 + 11) + 60 * d ≤ R.locals
    omega
end CALLP
