/-! CONSTANTS: the class's static arrays (1000 ..), the script (1009), the literals' strings (1020 ..) and their bytes (1040 ..). -/
def cS : List (String × List Int32) := [("RULE_USUAL", [0, 20, 40, 1]), ("RULE_LEAST", [0, 1, 1, 0]), ("RULE_MOST", [6, 60, 99, 9]), ("CELL_USUAL", [4, 3, 9, 6, 5]), ("CELL_LEAST", [0, 0, 0, 0, 0]), ("CELL_MOST", [30, 9, 10, 6, 99]), ("EVENT_USUAL", [3, 5]), ("EVENT_LEAST", [1, 0]), ("EVENT_MOST", [9, 10])]
def cByt : List (List Int32) := [[119, 108, 103, 98], [116, 109, 104, 120, 98], [110, 112], [116, 110, 109, 107, 100, 103], [115, 109, 116, 99, 101], [121], [110, 111, 32, 115, 117, 99, 104, 32, 112, 114, 105, 115, 111, 110, 101, 114], [110, 111, 32, 115, 117, 99, 104, 32, 116, 104, 105, 110, 103, 32, 111, 102, 32, 97, 32, 112, 114, 105, 115, 111, 110, 101, 114]]
def cLen : List Nat := [4, 5, 2, 6, 5, 1, 16, 27]
def cR : List (String × Nat × String × Nat) := [(RX3, 67, "wlgb", 0), (RX3, 82, "tmhxb", 1), (RX3, 93, "np", 2), (RX5, 79, "tnmkdg", 3), (RX6, 32, "smtce", 4), (RX10, 164, "no such prisoner", 6), (RX10, 185, "no such thing of a prisoner", 7), (RX11, 26, "y", 5), (RX11, 32, "tnmkdg", 3), (RX11, 245, "wlgb", 0), (RX11, 251, "tmhxb", 1), (RX11, 253, "np", 2), (RX11, 258, "smtce", 4)]
abbrev ph_A (G : ph_G) : Nat → Prop := fun q => gB G ≤ q
def ph_C (G : ph_G) (U : State) (H : Heap) : Prop :=
  (∀ (i : Nat) (q : String × List Int32), cS[i]? = some q → va_Z RX10 q.1 "[I" (.ref (gK G i)) (ph_A G) U H ∧ va_T .int (gK G i) q.2.length (fun j => .int (q.2.getD j 0)) (ph_A G) U H) ∧
  va_T .int (gK G 9) (gN G) (fun j => .int (gX G j)) (ph_A G) U H ∧
  vk_S 8 cLen cByt (fun i => gK G (20 + i)) (fun i => gK G (40 + i)) (ph_A G) U H ∧
  va_Z RJ0 "COMPACT_STRINGS" "Z" (.int 1) (ph_A G) U H ∧
  vx_Zq "java/lang/Throwable" "UNASSIGNED_STACK" "[Ljava/lang/StackTraceElement;" (ph_A G) U H ∧ vx_Zq "java/lang/Throwable" "SUPPRESSED_SENTINEL" "Ljava/util/List;" (ph_A G) U H ∧
  (va_Z RJ3 "SIOOBE_FORMATTER" "Ljava/util/function/BiFunction;" .null (ph_A G) U H ∨ va_Z RJ3 "SIOOBE_FORMATTER" "Ljava/util/function/BiFunction;" (.ref (gK G 60)) (ph_A G) U H)
theorem ph_C.moved {G : ph_G} {u U : State} {H : Heap} (hvm : u.vm.Alike U.vm) (h : ph_C G u H) : ph_C G U H :=
  ⟨fun i q hq => ⟨(h.1 i q hq).1.moved hvm, (h.1 i q hq).2.moved hvm⟩, h.2.1.moved hvm, h.2.2.1.moved hvm, h.2.2.2.1.moved hvm, h.2.2.2.2.1.moved hvm, h.2.2.2.2.2.1.moved hvm, h.2.2.2.2.2.2.imp (fun z => z.moved hvm) (fun z => z.moved hvm)⟩
theorem ph_C.kept {G : ph_G} {U : State} {H H1 : Heap} (h : ph_C G U H) (hq : ∀ a : Nat, a < H.size → ¬ ph_A G a → H1[a]? = H[a]?) : ph_C G U H1 :=
  ⟨fun i q hi => ⟨(h.1 i q hi).1.kept hq, (h.1 i q hi).2.kept hq⟩, h.2.1.kept hq, h.2.2.1.kept hq, h.2.2.2.1.kept hq, h.2.2.2.2.1.kept hq, h.2.2.2.2.2.1.kept hq, h.2.2.2.2.2.2.imp (fun z => z.kept hq) (fun z => z.kept hq)⟩
/-- what the tables and the constants say at a method's start -/
def ph_K (G : ph_G) (U : State) : Prop := va_K (gD G) vwCl (ph_tys G) U ∧ (∀ w ∈ nw, va_Nw w U) ∧ (∀ (i : Nat) (q : String × Nat × String × Nat), cR[i]? = some q → vk_R q.1 q.2.1 q.2.2.1 (gK G (20 + q.2.2.2)) U) ∧ ph_C G U U.heap ∧ gB G ≤ U.heap.size ∧ (gL G).stackTraces = false ∧ va_AO RX5 U ∧ va_AO RX6 U
theorem nw_tabs {w : Cond} (h : w ∈ nw) : w.onTables = true := by
  have h2 := (List.mem_filter.mp h).2
  cases w <;> first | rfl | (simp [isNw] at h2)
theorem nw_warm {w : Cond} (h : w ∈ nw) {s U : State} (hW : s.WarmedH U.vm) (hZ : va_Nw w s) : va_Nw w U := by
  have h2 := (List.mem_filter.mp h).2
  cases w <;> first | exact hZ.warmF hW | exact hZ.warmM hW | exact hZ.warmD hW | exact hZ.warmC hW | (simp [isNw] at h2)
theorem ph_K.warm {G : ph_G} {s U : State} (h : ph_K G s) (hW : s.WarmedH U.vm) (hq : ∀ a : Nat, a < s.heap.size → ¬ ph_A G a → U.heap[a]? = s.heap[a]?) (hz : s.heap.size ≤ U.heap.size) : ph_K G U :=
  ⟨va_K.moved hW.alike h.1, fun w hw => nw_warm hw hW (h.2.1 w hw), fun i q hq => (h.2.2.1 i q hq).warm hW, (h.2.2.2.1.moved hW.alike).kept hq, Nat.le_trans h.2.2.2.2.1 hz, h.2.2.2.2.2.1, va_AO.moved hW.alike h.2.2.2.2.2.2.1, va_AO.moved hW.alike h.2.2.2.2.2.2.2⟩
theorem ph_K.call {G : ph_G} {U : State} (h : ph_K G U) (g : JFrame) (mk : MethodId) (a : Array Value) : ph_K G (U.calling g mk a) :=
  ⟨va_K.moved (u := U) (U := U.calling g mk a) (Vm.Alike.refl U.vm) h.1, fun w hw => va_Nw.same (u := U) (U := U.calling g mk a) (nw_tabs hw) rfl (h.2.1 w hw), fun i q hq => vk_R.same (u := U) (U := U.calling g mk a) rfl (h.2.2.1 i q hq), ph_C.moved (u := U) (U := U.calling g mk a) (Vm.Alike.refl U.vm) h.2.2.2.1, h.2.2.2.2.1, h.2.2.2.2.2.1, h.2.2.2.2.2.2.1, h.2.2.2.2.2.2.2⟩
/-- a method's room at a depth, with what it may make -/
def ph_R (d : Nat) (B : Nat × Nat) : Room := { frames := d, cells := B.1, slots := B.2, locals := 60 * d }
def ph_w (k : Nat) : List Cond := .code (mN k) (mC k) (mL k) (mR k) :: gw
/-- the machine in a method's body -/
def ph_Cx (G : ph_G) (B : Nat × Nat) (d k : Nat) (p : Program) (R : Room) (s : State) (m : MethodId) (args : Array Value) (meth : Method) (c : Code) : Prop :=
  p.tables.exec = Jvm.exec ∧ c.code = mC k ∧ c.maxLocals = mL k ∧ s.vm.findClass (mN k).cls = some m.cls ∧ (∀ w ∈ gw, w.before args s = true) ∧ meth.sig.returnType = mR k ∧ meth.locks = false ∧ meth.name = (mN k).name ∧ ph_K G s ∧ (d ≤ R.frames ∧ 60 * d ≤ R.locals ∧ B.1 ≤ R.cells ∧ B.2 ≤ R.slots)
def ph_Q (G : ph_G) (Q : Option Value → ph_H → Prop) : Array Value → State → Outcome → State → Prop := fun _ st o t => (∃ (r : Option Value) (h : ph_H), Q r h ∧ o = .returned (r.map (cv G)) ∧ ph_Wd G h t.heap) ∧ va_F (ph_A G) st t
def ph_P (G : ph_G) (as : List Value) (h : ph_H) : Array Value → State → Prop := fun v U => v = (as.map (cv G)).toArray ∧ ph_Wd G h U.heap ∧ ph_K G U
/-- THE JUDGEMENT: from this frame over this heap the method comes to its end with Q -/
def wq (G : ph_G) (B : Nat × Nat) (d k pc : Nat) (ls : List (Option Value)) (st : List Value) (u : Nat × Nat) (h : ph_H) (Q : Option Value → ph_H → Prop) : Prop :=
  ∀ (p : Program) (e : Env) (R : Room) (s : State) (m : MethodId) (args : Array Value) (below : List Frame) (meth : Method) (c : Code) (H : Heap) (locs : List Loc) (Ls : Array Slot),
    ph_Cx G B d k p R s m args meth c → ph_Wd G h H → va_S (ph_A G) s.heap H locs → ph_L G ls (mL k) Ls →
    W p (gL G) e R s m args below meth c H locs u.1 u.2 (MQ below (ph_Q G Q) args s B.1 B.2 (ph_A G)) (F0 m pc Ls (st.map (cv G)))
/-- a method's contract -/
def Ct (G : ph_G) (B : Nat × Nat) (d k : Nat) (as : List Value) (h : ph_H) (Q : Option Value → ph_H → Prop) : Prop :=
  Met (gL G) (mN k) (ph_w k) (ph_R d B) (ph_P G as h) (ph_Q G Q) B.1 B.2 (ph_A G)
/-- the locals at a method's start -/
def ph_en (n : Nat) (as : List Value) : List (Option Value) := let l := as.flatMap (fun v => if v.category = 2 then [some v, none] else [some v]); l ++ List.replicate (n - l.length) none
theorem ph_en_get (G : ph_G) : ∀ (as : List Value) (b i : Nat) (v : Value), (as.flatMap (fun v => if v.category = 2 then [some v, none] else [some v]))[i]? = some (some v) → (b + i, cv G v) ∈ lv_args b (as.map (cv G)) := by
  intro as
  induction as with
  | nil => intro b i v h; simp at h
  | cons w as ih =>
    intro b i v h
    simp only [List.flatMap_cons] at h
    simp only [List.map_cons, lv_args, cv_cat]
    by_cases hc : w.category = 2
    · simp only [if_pos hc] at h ⊢
      match i with
      | 0 => simp at h; subst h; exact List.mem_cons_self
      | 1 => simp at h
      | i + 2 =>
        simp at h
        have := ih (b + 2) i v (by simpa using h)
        rw [show b + (i + 2) = b + 2 + i by omega]
        exact List.mem_cons_of_mem _ this
    · simp only [if_neg hc] at h ⊢
      match i with
      | 0 => simp at h; subst h; exact List.mem_cons_self
      | i + 1 =>
        simp at h
        have := ih (b + 1) i v (by simpa using h)
        rw [show b + (i + 1) = b + 1 + i by omega]
        exact List.mem_cons_of_mem _ this
theorem ph_en_len (G : ph_G) (as : List Value) : (lg_sl (as.map (cv G))).length = (as.flatMap (fun v => if v.category = 2 then [some v, none] else [some v])).length := by
  induction as with
  | nil => rfl
  | cons w as ih =>
    simp only [lg_sl, List.map_cons, List.flatMap_cons, List.length_append] at ih ⊢
    rw [ih, cv_cat]
    by_cases hc : w.category = 2 <;> simp [hc]
theorem ph_en_L {G : ph_G} {as : List Value} {n : Nat} (hn : (as.flatMap (fun v => if v.category = 2 then [some v, none] else [some v])).length ≤ n) : ph_L G (ph_en n as) n ((lg_sl (as.map (cv G)) ++ List.replicate (n - (lg_sl (as.map (cv G))).length) Slot.unset).toArray) := by
  obtain ⟨h1, h2, h3⟩ := lv_entry (as.map (cv G)) (n := n) (by rw [ph_en_len]; exact hn)
  refine ⟨h1, h2, fun i v hi => ?_⟩
  have h4 : (as.flatMap (fun v => if v.category = 2 then [some v, none] else [some v]))[i]? = some (some v) := by
    unfold ph_en at hi
    rw [List.getElem?_append] at hi
    split at hi
    · exact hi
    · rw [List.getElem?_replicate] at hi
      split at hi <;> cases hi
  have h5 := h3 _ (ph_en_get G as 0 i v h4)
  rwa [Nat.zero_add] at h5
/-- a contract out of a walk -/
theorem Ct_of {G : ph_G} {B : Nat × Nat} {d k : Nat} {as : List Value} {h : ph_H} {Q : Option Value → ph_H → Prop} {ls : List (Option Value)} (hy : plainName (mN k).cls = true) (hn : (as.flatMap (fun v => if v.category = 2 then [some v, none] else [some v])).length ≤ mL k) (he : ph_en (mL k) as = ls)
    (hw : wq G B d k 0 ls [] (0, 0) h Q) : Ct G B d k as h Q := by
  refine Met.ofW (cc := mC k) (maxL := mL k) (ret := mR k) hy rfl ?_
  intro p e s m args below meth c s₁ Bd hml hv
  obtain ⟨rfl, hWd, hK⟩ := hv
  have hts := atoms_spec (ws := ph_w k) Bd.pre
  rw [lg_entry_eq]
  subst he
  exact hw p e (ph_R d B) s m _ below meth c s.heap [] _ ⟨Bd.exec, Bd.bytes, hml, findClass_of_methodNamed Bd.named, fun w hw => hts w (List.mem_cons_of_mem _ hw), Bd.returns, Bd.notSynchronized, (name_of_methodNamed Bd.named Bd.method).1, hK, Nat.le_refl _, Nat.le_refl _, Nat.le_refl _, Nat.le_refl _⟩ hWd va_S.rf (ph_en_L hn)
