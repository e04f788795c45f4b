/-! THE PURE PICTURE. A heap of the class, the reference and the law's own array, by numbers of cells (0, 1, 2 ..: the address less the first one; 1000 and on: constants, which nobody writes). -/
/-- may cells be made; the cells' kinds (below 100: an object of the class of that number in vwCl; 100 int, 101 byte, 102 boolean, 103 long, 104 Law, 105 Plan arrays) and sizes; ints, longs, references by cell and place -/
abbrev ph_H : Type := Bool × List (Nat × Nat) × (Nat → Nat → Int32) × (Nat → Nat → Int64) × (Nat → Nat → Option Nat)
/-- what is fixed in a run: the launch, the tables' numbers, array classes, the first address, constants' addresses, the script -/
abbrev ph_G : Type := Launch × va_G × (Nat → ClassId) × Nat × (Nat → Nat) × Nat × (Nat → Int32)
abbrev gL (G : ph_G) : Launch := G.1
abbrev gD (G : ph_G) : va_G := G.2.1
abbrev gA (G : ph_G) : Nat → ClassId := G.2.2.1
abbrev gB (G : ph_G) : Nat := G.2.2.2.1
abbrev gK (G : ph_G) : Nat → Nat := G.2.2.2.2.1
abbrev gN (G : ph_G) : Nat := G.2.2.2.2.2.1
abbrev gX (G : ph_G) : Nat → Int32 := G.2.2.2.2.2.2
def ph_ad (G : ph_G) (k : Nat) : Nat := if k < 1000 then gB G + k else gK G (k - 1000)
def cv (G : ph_G) : Value → Value
  | .ref k => .ref (ph_ad G k)
  | v => v
theorem cv_cat (G : ph_G) (v : Value) : (cv G v).category = v.category := by cases v <;> rfl
theorem cv_rf (G : ph_G) (r : Option Nat) : cv G (va_rf r) = va_rf (r.map (ph_ad G)) := by cases r <;> rfl
def ph_fty (c : Nat) : Nat → FieldType := match c with
  | 0 => tyX0
  | 1 => tyX1
  | 2 => tyX2
  | 3 => tyX3
  | 4 => tyX4
  | 5 => tyX5
  | 6 => tyX6
  | 7 => tyX7
  | 8 => tyX8
  | 9 => tyX9
  | 10 => tyX10
  | _ => tyX11
abbrev hI (h : ph_H) : Nat → Nat → Int32 := h.2.2.1
abbrev hL (h : ph_H) : Nat → Nat → Int64 := h.2.2.2.1
abbrev hR (h : ph_H) : Nat → Nat → Option Nat := h.2.2.2.2
abbrev hS (h : ph_H) : List (Nat × Nat) := h.2.1
def ph_fv (G : ph_G) (h : ph_H) (a : Nat) (t : FieldType) (s : Nat) : Value := match t with
  | .long => .long (hL h a s)
  | .object _ => va_rf ((hR h a s).map (ph_ad G))
  | .array _ => va_rf ((hR h a s).map (ph_ad G))
  | _ => .int (hI h a s)
def ph_ar (G : ph_G) (h : ph_H) (a kd n : Nat) : vp_A := (n, if kd < 103 then .inl (hI h a) else if kd = 103 then .inr (.inl (hL h a)) else .inr (.inr (.inr (.inr (fun i => (hR h a i).map (ph_ad G))))))
def ph_ce (G : ph_G) (h : ph_H) (a : Nat) : va_E := match (hS h)[a]? with
  | none => .inr (0, [])
  | some q => if q.1 < 100 then .inr (q.1, (List.range q.2).map (fun s => ph_fv G h a (ph_fty q.1 s) s)) else .inl (gA G q.1, ph_ar G h a q.1 q.2)
def ph_ws (G : ph_G) (h : ph_H) : va_W := (List.range (hS h).length).map (fun a => (gB G + a, ph_ce G h a))
theorem ph_at {G : ph_G} {h : ph_H} {a : Nat} {q : Nat × Nat} (ha : (hS h)[a]? = some q) : (ph_ws G h)[a]? = some (gB G + a, ph_ce G h a) := by
  have hl := (List.getElem?_eq_some_iff.mp ha).1
  simp [ph_ws, hl]
theorem ph_ce_o {G : ph_G} {h : ph_H} {a ci n : Nat} (ha : (hS h)[a]? = some (ci, n)) (hc : ci < 100) : ph_ce G h a = .inr (ci, (List.range n).map (fun s => ph_fv G h a (ph_fty ci s) s)) := by
  simp only [ph_ce, ha, if_pos hc]
theorem ph_ce_a {G : ph_G} {h : ph_H} {a kd n : Nat} (ha : (hS h)[a]? = some (kd, n)) (hc : 100 ≤ kd) : ph_ce G h a = .inl (gA G kd, ph_ar G h a kd n) := by
  simp only [ph_ce, ha, if_neg (Nat.not_lt.mpr hc)]
theorem ph_D (G : ph_G) (h : ph_H) : va_D (fun q => gB G ≤ q) (ph_ws G h) := by
  have key : ∀ (k : Nat) (q : Nat × va_E), (ph_ws G h)[k]? = some q → q.1 = gB G + k := by
    intro k q hk
    simp only [ph_ws, List.getElem?_map, Option.map_eq_some_iff] at hk
    obtain ⟨a, h1, h2⟩ := hk
    have := List.getElem?_eq_some_iff.mp h1
    obtain ⟨h3, h4⟩ := this
    simp at h4
    subst h4
    rw [← h2]
  refine ⟨fun i j p q hi hj hpq => ?_, fun k q hk => ?_⟩
  · have h1 := key i p hi
    have h2 := key j q hj
    omega
  · have h1 := key k q hk
    show gB G ≤ q.1
    omega
/-- the heap behind a change of one cell -/
theorem ph_set {G : ph_G} {h h' : ph_H} {a : Nat} (hsh : hS h' = hS h) (ho : ∀ b, b ≠ a → ph_ce G h' b = ph_ce G h b) : (ph_ws G h).set a (gB G + a, ph_ce G h' a) = ph_ws G h' := by
  apply List.ext_getElem?
  intro i
  simp only [ph_ws, hsh, List.getElem?_set, List.getElem?_map, List.length_map, List.length_range]
  by_cases hi : a = i
  · subst hi
    simp only [if_pos]
    by_cases hl : a < (hS h).length
    · simp [hl]
    · simp [hl]
  · simp only [if_neg hi]
    by_cases hl : i < (hS h).length
    · simp [hl, ho i (Ne.symm hi)]
    · simp [hl]
/-- one place of one cell -/
def up2 {α : Type} (f : Nat → Nat → α) (a i : Nat) (x : α) : Nat → Nat → α := fun b => if b = a then va_up (f a) i x else f b
theorem up2_s {α : Type} (f : Nat → Nat → α) (a i : Nat) (x : α) : up2 f a i x a = va_up (f a) i x := if_pos rfl
theorem up2_o {α : Type} (f : Nat → Nat → α) {a b : Nat} (i : Nat) (x : α) (h : b ≠ a) : up2 f a i x b = f b := if_neg h
def stI (h : ph_H) (a i : Nat) (x : Int32) : ph_H := (h.1, h.2.1, up2 h.2.2.1 a i x, h.2.2.2.1, h.2.2.2.2)
def stL (h : ph_H) (a i : Nat) (x : Int64) : ph_H := (h.1, h.2.1, h.2.2.1, up2 h.2.2.2.1 a i x, h.2.2.2.2)
def stR (h : ph_H) (a i : Nat) (x : Option Nat) : ph_H := (h.1, h.2.1, h.2.2.1, h.2.2.2.1, up2 h.2.2.2.2 a i x)
theorem ph_fvI {G : ph_G} {h : ph_H} {a i : Nat} {x : Int32} (b : Nat) (t : FieldType) (s : Nat) (hb : b ≠ a ∨ s ≠ i) : ph_fv G (stI h a i x) b t s = ph_fv G h b t s := by
  cases t <;> simp only [ph_fv, stI, hI, hL, hR] <;>
  · by_cases hba : b = a
    · subst hba
      rcases hb with hb | hb
      · exact absurd rfl hb
      · rw [up2_s]; simp only [va_up, if_neg hb]
    · rw [up2_o _ _ _ hba]
theorem ph_fvL {G : ph_G} {h : ph_H} {a i : Nat} {x : Int64} (b : Nat) (t : FieldType) (s : Nat) (hb : b ≠ a ∨ s ≠ i) : ph_fv G (stL h a i x) b t s = ph_fv G h b t s := by
  cases t <;> simp only [ph_fv, stL, hI, hL, hR] <;>
  · by_cases hba : b = a
    · subst hba
      rcases hb with hb | hb
      · exact absurd rfl hb
      · rw [up2_s]; simp only [va_up, if_neg hb]
    · rw [up2_o _ _ _ hba]
theorem ph_fvR {G : ph_G} {h : ph_H} {a i : Nat} {x : Option Nat} (b : Nat) (t : FieldType) (s : Nat) (hb : b ≠ a ∨ s ≠ i) : ph_fv G (stR h a i x) b t s = ph_fv G h b t s := by
  cases t <;> simp only [ph_fv, stR, hI, hL, hR] <;>
  · by_cases hba : b = a
    · subst hba
      rcases hb with hb | hb
      · exact absurd rfl hb
      · rw [up2_s]; simp only [va_up, if_neg hb]
    · rw [up2_o _ _ _ hba]
theorem ph_ceI {G : ph_G} {h : ph_H} {a i : Nat} {x : Int32} (b : Nat) (hb : b ≠ a) : ph_ce G (stI h a i x) b = ph_ce G h b := by
  have e1 : hS (stI h a i x) = hS h := rfl
  simp only [ph_ce, e1, ph_fvI _ _ _ (Or.inl hb), ph_ar]
  simp only [stI, hI, hL, hR, up2_o _ _ _ hb]
theorem ph_ceL {G : ph_G} {h : ph_H} {a i : Nat} {x : Int64} (b : Nat) (hb : b ≠ a) : ph_ce G (stL h a i x) b = ph_ce G h b := by
  have e1 : hS (stL h a i x) = hS h := rfl
  simp only [ph_ce, e1, ph_fvL _ _ _ (Or.inl hb), ph_ar]
  simp only [stL, hI, hL, hR, up2_o _ _ _ hb]
theorem ph_ceR {G : ph_G} {h : ph_H} {a i : Nat} {x : Option Nat} (b : Nat) (hb : b ≠ a) : ph_ce G (stR h a i x) b = ph_ce G h b := by
  have e1 : hS (stR h a i x) = hS h := rfl
  simp only [ph_ce, e1, ph_fvR _ _ _ (Or.inl hb), ph_ar]
  simp only [stR, hI, hL, hR, up2_o _ _ _ hb]
/-- a field of an object is set -/
theorem ph_fs {G : ph_G} {h h' : ph_H} {a ci n s : Nat} {v : Value} (ho : ∀ s', s' ≠ s → ph_fv G h' a (ph_fty ci s') s' = ph_fv G h a (ph_fty ci s') s') (hv : ph_fv G h' a (ph_fty ci s) s = v) :
    ((List.range n).map (fun s => ph_fv G h a (ph_fty ci s) s)).set s v = (List.range n).map (fun s => ph_fv G h' a (ph_fty ci s) s) := by
  apply List.ext_getElem?
  intro i
  simp only [List.getElem?_set, List.getElem?_map, List.length_map, List.length_range]
  by_cases hi : s = i
  · subst hi
    by_cases hl : s < n
    · simp [hl, hv]
    · simp [hl]
  · simp only [if_neg hi]
    by_cases hl : i < n
    · simp [hl, ho i (Ne.symm hi)]
    · simp [hl]
/-- the world: the cells are there -/
def ph_Wd (G : ph_G) (h : ph_H) (H : Heap) : Prop := va_P (gD G) vwCl (ph_ws G h) H ∧ (hS h).length ≤ 1000 ∧ (h.1 = true → H.size = gB G + (hS h).length)
theorem ph_ad_lt {G : ph_G} {h : ph_H} {H : Heap} {a : Nat} {q : Nat × Nat} (hw : ph_Wd G h H) (ha : (hS h)[a]? = some q) : ph_ad G a = gB G + a := by
  have hl := (List.getElem?_eq_some_iff.mp ha).1
  have h2 := hw.2.1
  exact if_pos (by omega)
abbrev ph_tys (G : ph_G) : List (ClassId × FieldType) := [(gA G 100, .int), (gA G 101, .byte), (gA G 102, .boolean), (gA G 103, .long), (gA G 104, .object RX5), (gA G 105, .object RX6)]
/-- locals: what is known of them -/
def ph_L (G : ph_G) (ls : List (Option Value)) (n : Nat) (Ls : Array Slot) : Prop := Ls.size = n ∧ lv_wf Ls ∧ ∀ (i : Nat) (v : Value), ls[i]? = some (some v) → Ls[i]? = some (Slot.val (cv G v))
def ph_lv (G : ph_G) (ls : List (Option Value)) : List (Nat × Value) := (List.range ls.length).filterMap (fun i => (ls[i]?.join).map (fun v => (i, cv G v)))
theorem ph_lv_mem {G : ph_G} {ls : List (Option Value)} {i : Nat} {v : Value} : (i, v) ∈ ph_lv G ls ↔ ∃ w, ls[i]? = some (some w) ∧ v = cv G w := by
  simp only [ph_lv, List.mem_filterMap, List.mem_range]
  constructor
  · rintro ⟨j, hj, h⟩
    simp only [Option.map_eq_some_iff] at h
    obtain ⟨w, hw, e⟩ := h
    simp only [Prod.mk.injEq] at e
    obtain ⟨rfl, rfl⟩ := e
    refine ⟨w, ?_, rfl⟩
    cases hq : ls[j]? with
    | none => rw [hq] at hw; simp at hw
    | some o => rw [hq] at hw; simp at hw; rw [hw]
  · rintro ⟨w, hw, rfl⟩
    refine ⟨i, (List.getElem?_eq_some_iff.mp hw).1, ?_⟩
    rw [hw]; rfl
theorem ph_L.has {G : ph_G} {ls : List (Option Value)} {n : Nat} {Ls : Array Slot} (h : ph_L G ls n Ls) : lv_has Ls n (ph_lv G ls) := by
  refine ⟨h.1, h.2.1, fun q hq => ?_⟩
  obtain ⟨i, v⟩ := q
  obtain ⟨w, hw, rfl⟩ := ph_lv_mem.mp hq
  exact h.2.2 i w hw
/-- a store of one word, of two words -/
def ph_kill (ls : List (Option Value)) (i : Nat) : List (Option Value) := match i with
  | 0 => ls
  | j + 1 => match ls[j]? with
    | some (some (.long _)) => ls.set j none
    | some (some (.double _)) => ls.set j none
    | _ => ls
def ph_st1 (ls : List (Option Value)) (i : Nat) (v : Value) : List (Option Value) := (ph_kill ls i).set i (some v)
def ph_st2 (ls : List (Option Value)) (i : Nat) (v : Value) : List (Option Value) := ((ph_kill ls i).set (i + 1) none).set i (some v)
theorem ph_kill_get {ls : List (Option Value)} {i j : Nat} {w : Value} (h : (ph_kill ls i)[j]? = some (some w)) : ls[j]? = some (some w) ∧ ¬ (j + 1 = i ∧ w.category = 2) := by
  unfold ph_kill at h
  cases i with
  | zero => exact ⟨h, fun q => by omega⟩
  | succ k =>
    dsimp only at h
    by_cases hjk : j = k
    · subst hjk
      split at h
      · simp [List.getElem?_set] at h
      · simp [List.getElem?_set] at h
      · rename_i h1 h2
        refine ⟨h, fun q => ?_⟩
        cases w with
        | long x => exact h1 x h
        | double x => exact h2 x h
        | _ => simp [Value.category] at q
    · refine ⟨?_, fun q => hjk (by omega)⟩
      split at h
      · rwa [List.getElem?_set_ne (Ne.symm hjk)] at h
      · rwa [List.getElem?_set_ne (Ne.symm hjk)] at h
      · exact h
theorem ph_L.st1 {G : ph_G} {ls : List (Option Value)} {n i : Nat} {v : Value} {Ls' : Array Slot}
    (h' : lv_has Ls' n ((i, cv G v) :: (ph_lv G ls).filter (fun q => !(q.1 == i) && !(q.1 + 1 == i && q.2.category == 2)))) : ph_L G (ph_st1 ls i v) n Ls' := by
  refine ⟨h'.1, h'.2.1, fun j w hj => ?_⟩
  unfold ph_st1 at hj
  by_cases hij : i = j
  · subst hij
    rw [List.getElem?_set] at hj
    split at hj
    · split at hj
      · cases hj
        exact h'.2.2 (i, cv G v) List.mem_cons_self
      · cases hj
    · omega
  · rw [List.getElem?_set_ne hij] at hj
    obtain ⟨h1, h2⟩ := ph_kill_get hj
    refine h'.2.2 (j, cv G w) (List.mem_cons_of_mem _ (List.mem_filter.mpr ⟨ph_lv_mem.mpr ⟨w, h1, rfl⟩, ?_⟩))
    simp only [cv_cat]
    simp only [Bool.and_eq_true, Bool.not_eq_true', beq_eq_false_iff_ne, Bool.and_eq_false_iff]
    refine ⟨Ne.symm hij, ?_⟩
    by_cases hk : j + 1 = i
    · exact Or.inr (fun q => h2 ⟨hk, q⟩)
    · exact Or.inl hk
theorem ph_L.st2 {G : ph_G} {ls : List (Option Value)} {n i : Nat} {v : Value} {Ls' : Array Slot}
    (h' : lv_has Ls' n ((i, cv G v) :: (ph_lv G ls).filter (fun q => !(q.1 == i) && (!(q.1 == i + 1) && !(q.1 + 1 == i && q.2.category == 2))))) : ph_L G (ph_st2 ls i v) n Ls' := by
  refine ⟨h'.1, h'.2.1, fun j w hj => ?_⟩
  unfold ph_st2 at hj
  by_cases hij : i = j
  · subst hij
    rw [List.getElem?_set] at hj
    split at hj
    · split at hj
      · cases hj
        exact h'.2.2 (i, cv G v) List.mem_cons_self
      · cases hj
    · omega
  · rw [List.getElem?_set_ne hij] at hj
    by_cases hij1 : i + 1 = j
    · subst hij1
      rw [List.getElem?_set] at hj
      split at hj
      · split at hj <;> cases hj
      · omega
    · rw [List.getElem?_set_ne hij1] at hj
      obtain ⟨h1, h2⟩ := ph_kill_get hj
      refine h'.2.2 (j, cv G w) (List.mem_cons_of_mem _ (List.mem_filter.mpr ⟨ph_lv_mem.mpr ⟨w, h1, rfl⟩, ?_⟩))
      simp only [cv_cat]
      simp only [Bool.and_eq_true, Bool.not_eq_true', beq_eq_false_iff_ne, Bool.and_eq_false_iff]
      refine ⟨Ne.symm hij, Ne.symm hij1, ?_⟩
      by_cases hk : j + 1 = i
      · exact Or.inr (fun q => h2 ⟨hk, q⟩)
      · exact Or.inl hk
