/-! SHORT FORMS: nothing is made -/
def ph_k (r : Option Value) (rest : List Value) : List Value := match r with
  | some v => v :: rest
  | none => rest
theorem ph_k_eq (r : Option Value) (rest : List Value) : r.toList ++ rest = ph_k r rest := by cases r <;> rfl
section SHORT
variable {G : ph_G} {d k pc npc : Nat} {ls ls' : List (Option Value)} {st : List Value} {h : ph_H} {Q : Option Value → ph_H → Prop}
theorem cV {x wi k' ci ni n ii si b cb nb : Nat} {As rest : List Value} (q : qD k pc (.invokevirtual x) 3 npc ∧ qI k x k' wi) (hm : mI k' ci ni n ii si) (hst : As.reverse ++ .ref b :: rest = st) (hn : As.length = n) (hb : (hS h)[b]? = some (cb, nb)) (hcb : cb < 12 ∧ vC cb = (mN k').cls) (hf : ((rest.map (fun v : Value => v.category)).sum).ble 8 = true)
    (kk : Ct G (0, 0) d k' (.ref b :: As) h (fun r h' => wq G (0, 0) (d + 1) k npc ls (ph_k r rest) (0, 0) h' Q)) : wq G (0, 0) (d + 1) k pc ls st (0, 0) h Q := by
  refine wq_callV (B' := (0, 0)) (As := As) (rest := rest) q hm hst hn hb hcb ⟨Nat.le.refl, Nat.le.refl, Nat.le_of_ble_eq_true hf⟩ ?_
  simp only [ph_k_eq]
  exact kk
theorem cS' {x wi k' ci ni n ii : Nat} {As rest : List Value} (q : qD k pc (.invokestatic x) 3 npc ∧ qI k x k' wi) (hm : mS k' ci ni n ii) (hst : As.reverse ++ rest = st) (hn : As.length = n) (hf : ((rest.map (fun v : Value => v.category)).sum).ble 8 = true)
    (kk : Ct G (0, 0) d k' As h (fun r h' => wq G (0, 0) (d + 1) k npc ls (ph_k r rest) (0, 0) h' Q)) : wq G (0, 0) (d + 1) k pc ls st (0, 0) h Q := by
  refine wq_callS (B' := (0, 0)) (As := As) (rest := rest) q hm hst hn ⟨Nat.le.refl, Nat.le.refl, Nat.le_of_ble_eq_true hf⟩ ?_
  simp only [ph_k_eq]
  exact kk
theorem cT {x wi k' ci ni n ii si j : Nat} {As rest : List Value} (q : qD k pc (.invokevirtual x) 3 npc ∧ inG wi (.methodLink (mN k).cls x (mN k')) ∧ mL k' ≤ 41 ∧ (mN k').cls = "java/lang/String") (hm : mI k' ci ni n ii si) (hst : As.reverse ++ .ref (1000 + (20 + j)) :: rest = st) (hn : As.length = n) (hj : j < 8) (hf : ((rest.map (fun v : Value => v.category)).sum).ble 8 = true)
    (kk : Ct G (0, 0) d k' (.ref (1000 + (20 + j)) :: As) h (fun r h' => wq G (0, 0) (d + 1) k npc ls (ph_k r rest) (0, 0) h' Q)) : wq G (0, 0) (d + 1) k pc ls st (0, 0) h Q := by
  refine wq_callT (B' := (0, 0)) (As := As) (rest := rest) q hm hst hn hj ⟨Nat.le.refl, Nat.le.refl, Nat.le_of_ble_eq_true hf⟩ ?_
  simp only [ph_k_eq]
  exact kk
theorem rI {x : Int32} {ty : FieldType} (q : qD k pc .ireturn 1 npc ∧ mR k = some ty) (hn : narrow ty (.int x) = .int x) (hQ : Q (some (.int x)) h) : wq G (0, 0) d k pc ls [.int x] (0, 0) h Q := wq_iret q hn ⟨Nat.le.refl, Nat.le.refl⟩ hQ
theorem rL {x : Int64} (q : qD k pc .lreturn 1 npc ∧ mR k = some .long) (hQ : Q (some (.long x)) h) : wq G (0, 0) d k pc ls [.long x] (0, 0) h Q := wq_lret q ⟨Nat.le.refl, Nat.le.refl⟩ hQ
theorem rV (q : qD k pc .return_ 1 npc ∧ mR k = none) (hQ : Q none h) : wq G (0, 0) d k pc ls [] (0, 0) h Q := wq_vret q ⟨Nat.le.refl, Nat.le.refl⟩ hQ
theorem rN {C : String} (q : qD k pc .areturn 1 npc ∧ mR k = some (.object C)) (hQ : Q (some .null) h) : wq G (0, 0) d k pc ls [.null] (0, 0) h Q := wq_aret q (Or.inl rfl) ⟨Nat.le.refl, Nat.le.refl⟩ hQ
theorem rR {C : String} {a : Nat} (q : qD k pc .areturn 1 npc ∧ mR k = some (.object C)) (hQ : Q (some (.ref a)) h) : wq G (0, 0) d k pc ls [.ref a] (0, 0) h Q := wq_aret q (Or.inr ⟨_, rfl⟩) ⟨Nat.le.refl, Nat.le.refl⟩ hQ
variable {B u : Nat × Nat}
theorem nI_in' {j n : Nat} (hj : j < n) (hn : n < 2 ^ 31) : vp_in (nI j) n := vp_in_nI hj hn
/-- arrays by a number that is no Int32 -/
theorem aI {a n j : Nat} {i : Int32} (q : qD k pc .iaload 1 npc) (ha : (hS h)[a]? = some (100, n)) (e : i = nI j) (hj : j < n) (hn : n < 2 ^ 31) (kk : wq G B d k npc ls (.int (hI h a j) :: st) u h Q) : wq G B d k pc ls (.int i :: .ref a :: st) u h Q := by
  subst e
  refine wq_iald q ha (vp_in_nI hj hn) ?_
  rw [nI_clamp (by omega)]
  exact kk
theorem aB {a n j : Nat} {i : Int32} (q : qD k pc .baload 1 npc) (ha : (hS h)[a]? = some (101, n)) (e : i = nI j) (hj : j < n) (hn : n < 2 ^ 31) (kk : wq G B d k npc ls (.int (hI h a j) :: st) u h Q) : wq G B d k pc ls (.int i :: .ref a :: st) u h Q := by
  subst e
  refine wq_bald q ha (vp_in_nI hj hn) ?_
  rw [nI_clamp (by omega)]
  exact kk
theorem aZ {a n j : Nat} {i : Int32} (q : qD k pc .baload 1 npc) (ha : (hS h)[a]? = some (102, n)) (e : i = nI j) (hj : j < n) (hn : n < 2 ^ 31) (kk : wq G B d k npc ls (.int (hI h a j) :: st) u h Q) : wq G B d k pc ls (.int i :: .ref a :: st) u h Q := by
  subst e
  refine wq_zald q ha (vp_in_nI hj hn) ?_
  rw [nI_clamp (by omega)]
  exact kk
theorem aA {a n kd b j : Nat} {i : Int32} (q : qD k pc .aaload 1 npc) (ha : (hS h)[a]? = some (kd, n)) (hk : kd = 104 ∨ kd = 105) (e : i = nI j) (hj : j < n) (hn : n < 2 ^ 31) (hb : hR h a j = some b) (kk : wq G B d k npc ls (.ref b :: st) u h Q) : wq G B d k pc ls (.int i :: .ref a :: st) u h Q := by
  subst e
  refine wq_aald q ha hk (vp_in_nI hj hn) ?_ kk
  rw [nI_clamp (by omega)]
  exact hb
theorem aC {j' : Nat} {j : Nat} {i : Int32} {cq : String × List Int32} (q : qD k pc .iaload 1 npc) (hc : cS[j']? = some cq) (e : i = nI j) (hj : j < cq.2.length) (hn : cq.2.length < 2 ^ 31) (kk : wq G B d k npc ls (.int (cq.2.getD j 0) :: st) u h Q) : wq G B d k pc ls (.int i :: .ref (1000 + j') :: st) u h Q := by
  subst e
  refine wq_ialdC q hc (vp_in_nI hj hn) ?_
  rw [nI_clamp (by omega)]
  exact kk
theorem sI {a n j : Nat} {i x : Int32} (q : qD k pc .iastore 1 npc) (ha : (hS h)[a]? = some (100, n)) (e : i = nI j) (hj : j < n) (hn : n < 2 ^ 31) (hfr : h.1 = false) (kk : wq G B d k npc ls st u (stI h a j x) Q) : wq G B d k pc ls (.int x :: .int i :: .ref a :: st) u h Q := by
  subst e
  refine wq_iast q ha (vp_in_nI hj hn) hfr ?_
  rw [nI_clamp (by omega)]
  exact kk
theorem sB {a n j : Nat} {i x : Int32} (q : qD k pc .bastore 1 npc) (ha : (hS h)[a]? = some (101, n)) (e : i = nI j) (hj : j < n) (hn : n < 2 ^ 31) (hfr : h.1 = false) (kk : wq G B d k npc ls st u (stI h a j (vp_nar .byte x)) Q) : wq G B d k pc ls (.int x :: .int i :: .ref a :: st) u h Q := by
  subst e
  refine wq_bast q ha (vp_in_nI hj hn) hfr ?_
  rw [nI_clamp (by omega)]
  exact kk
theorem sZ {a n j : Nat} {i x : Int32} (q : qD k pc .bastore 1 npc) (ha : (hS h)[a]? = some (102, n)) (e : i = nI j) (hj : j < n) (hn : n < 2 ^ 31) (hfr : h.1 = false) (kk : wq G B d k npc ls st u (stI h a j (vp_nar .boolean x)) Q) : wq G B d k pc ls (.int x :: .int i :: .ref a :: st) u h Q := by
  subst e
  refine wq_zast q ha (vp_in_nI hj hn) hfr ?_
  rw [nI_clamp (by omega)]
  exact kk
end SHORT
/-! THE SHAPE of the two systems, once they are made -/
def shT : List (Nat × Nat) := [(10, 20), (8, 4), (100, 240), (3, 6), (100, 4), (100, 35), (100, 12), (3, 6), (100, 4), (100, 35), (100, 12), (104, 5), (105, 5), (5, 3), (100, 241), (100, 32), (6, 2), (100, 48), (5, 3), (100, 241), (100, 32), (6, 2), (100, 48), (5, 3), (100, 241), (100, 32), (6, 2), (100, 48), (5, 3), (100, 241), (100, 32), (6, 2), (100, 48), (5, 3), (100, 241), (100, 32), (6, 2), (100, 48), (7, 1), (100, 33), (7, 1), (100, 33), (7, 1), (100, 33), (2, 1), (100, 300), (2, 1), (100, 300), (0, 3), (100, 1320), (4, 3), (100, 7), (100, 7), (100, 6), (9, 3), (100, 7), (100, 7), (1, 3), (11, 48), (101, 240), (101, 960), (100, 4), (100, 128), (100, 4), (100, 4), (100, 35), (100, 35), (100, 12), (100, 12), (100, 240), (100, 5), (100, 214), (100, 214), (100, 7), (100, 8560), (100, 16), (100, 16), (102, 16), (100, 214), (103, 1)]
/-- the references: f the fort, dr the draft, t the text that the reference reads -/
def refT (f dr t : Nat) : List (List (Option Nat)) := [[some 1, some f, some dr, some 11, none, none, some 12, none, none, some 38, some 40, some 42, none, some 44, some 46, some 48, some 50, some 54, some 57], [some 2], [], [some 4, some 5, some 6], [], [], [], [some 8, some 9, some 10], [], [], [], [some 13, some 18, some 23, some 28, some 33], [some 16, some 21, some 26, some 31, some 36],
  [some 14, some 15], [], [], [some 17], [], [some 19, some 20], [], [], [some 22], [], [some 24, some 25], [], [], [some 27], [], [some 29, some 30], [], [], [some 32], [], [some 34, some 35], [], [], [some 37], [],
  [some 39], [], [some 41], [], [some 43], [], [some 45], [], [some 47], [], [some 49], [], [some 51, some 52, some 53], [], [], [], [some 55, some 56], [], [], [],
  [none, some 59, some 60, some 61, some 62, some t, none, none, none, none, none, none, none, none, none, some 1025, some 1023, none, some 63, some 64, some 65, some 66, some 67, some 68, some 69, some 70, none, none, none, none, none, none, some 71, some 72, none, none, some 73, some 74, none, none, none, none, some 75, some 76, some 77, none, some 78]]
def HR (f dr t a s : Nat) : Option Nat := ((refT f dr t).getD a []).getD s none
/-- a heap of the two systems -/
def HP (hi : Nat → Nat → Int32) (hl : Nat → Nat → Int64) (f dr t : Nat) : ph_H := (false, shT, hi, hl, HR f dr t)
