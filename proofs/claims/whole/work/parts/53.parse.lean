/-! THE PARSER of laws, plainly -/
abbrev PR (α : Type) : Type := Nat ⊕ (Nat × α)
abbrev pok {α : Type} (p : Nat) (a : α) : PR α := Sum.inr (p, a)
abbrev pno {α : Type} (q : Nat) : PR α := Sum.inl q
def pB {α β : Type} (x : PR α) (g : Nat → α → PR β) : PR β := match x with
  | .inr r => g r.1 r.2
  | .inl q => .inl q
/-- an expression: its signs, its value -/
abbrev Ex : Type := List Int32 × ((Nat → Int32) → Int32)
def exNum (v : Int32) : Ex := ([v], fun _ => v)
def exLet (k : Nat) : Ex := ([-1 - nI k], fun lt => lt k)
def exNt (e : Ex) : Ex := (e.1 ++ [-33], fun lt => 1 - e.2 lt)
def exOp (x : Int32) (a b : Ex) : Ex := (a.1 ++ (b.1 ++ [x]), fun lt => jn x (a.2 lt).toInt64 (b.2 lt).toInt64)
def opOk (x : Int32) : Bool := x = -43 || x = -45 || x = -42 || x = -47 || x = -61 || x = -60 || x = -62 || x = -38 || x = -124
/-- the signs run: they leave the value, over a stack of depth dp with room for D -/
def RO (D : Nat) (e : Ex) : Prop := (∀ x, x ∈ e.1 → ¬ x = -59) ∧ ∀ (sg : Nat → Int32) (sz : Nat) (lt : Nat → Int32) (m i dp : Nat) (stk : Nat → Int32), (∀ k, k < e.1.length → sg (i + k) = e.1.getD k 0) → i + e.1.length ≤ sz → dp + D ≤ 32 →
  ∃ stk' : Nat → Int32, (∀ j, j < dp → stk' j = stk j) ∧ stk' dp = e.2 lt ∧ wo sg sz lt (m + e.1.length) i dp stk = wo sg sz lt m (i + e.1.length) (dp + 1) stk'
theorem RO.mono {D D' : Nat} {e : Ex} (h : RO D e) (hD : D ≤ D') : RO D' e := ⟨h.1, fun sg sz lt m i dp stk h1 h2 h3 => h.2 sg sz lt m i dp stk h1 h2 (by omega)⟩
theorem wo_push {sg : Nat → Int32} {sz : Nat} {lt : Nat → Int32} {m i dp : Nat} {stk : Nat → Int32} (h1 : i < sz) (h2 : -6 ≤ sg i) (h3 : dp < 32) : wo sg sz lt (m + 1) i dp stk = wo sg sz lt m (i + 1) (dp + 1) (va_up stk dp (if sg i < 0 then lt (lx (sg i)) else sg i)) := by
  rw [wo, if_neg (by omega), if_pos h2, if_pos h3, if_pos h3]
theorem RO_num {D : Nat} {v : Int32} (hD : 1 ≤ D) (hv : 0 ≤ v) : RO D (exNum v) := by
  refine ⟨fun x hx => ?_, fun sg sz lt m i dp stk h1 h2 h3 => ?_⟩
  · simp only [exNum, List.mem_singleton] at hx
    subst hx
    intro z
    rw [z] at hv
    exact absurd hv (by decide)
  · have e : sg i = v := h1 0 (by show 0 < 1; omega)
    have h2' : i + 1 ≤ sz := h2
    refine ⟨va_up stk dp v, fun j hj => vu_o _ _ (by omega), vu_s _ _ _, ?_⟩
    show wo sg sz lt (m + 1) i dp stk = _
    rw [wo_push (by omega) (by rw [e]; exact Int32.le_trans (by decide) hv) (by omega), e, if_neg (Int32.not_lt.mpr hv)]
    rfl
theorem let_s : ∀ k, k < 6 → (-6 : Int32) ≤ -1 - nI k ∧ -1 - nI k < 0 ∧ lx (-1 - nI k) = k ∧ ¬ -1 - nI k = -59 := by decide
theorem RO_let {D k : Nat} (hD : 1 ≤ D) (hk : k < 6) : RO D (exLet k) := by
  obtain ⟨k1, k2, k3, k4⟩ := let_s k hk
  refine ⟨fun x hx => ?_, fun sg sz lt m i dp stk h1 h2 h3 => ?_⟩
  · simp only [exLet, List.mem_singleton] at hx
    subst hx
    exact k4
  · have e : sg i = -1 - nI k := h1 0 (by show 0 < 1; omega)
    have h2' : i + 1 ≤ sz := h2
    refine ⟨va_up stk dp (lt k), fun j hj => vu_o _ _ (by omega), vu_s _ _ _, ?_⟩
    show wo sg sz lt (m + 1) i dp stk = _
    rw [wo_push (by omega) (by rw [e]; exact k1) (by omega), e, if_pos k2, k3]
    rfl
theorem gd_l {a b : List Int32} {k : Nat} (h : k < a.length) : (a ++ b).getD k 0 = a.getD k 0 := by
  rw [List.getD_eq_getElem?_getD, List.getD_eq_getElem?_getD, List.getElem?_append_left h]
theorem gd_r {a b : List Int32} {k : Nat} : (a ++ b).getD (a.length + k) 0 = b.getD k 0 := by
  rw [List.getD_eq_getElem?_getD, List.getD_eq_getElem?_getD, List.getElem?_append_right (by omega), Nat.add_sub_cancel_left]
theorem RO_nt {D : Nat} {e : Ex} (h : RO D e) : RO D (exNt e) := by
  refine ⟨fun x hx => ?_, fun sg sz lt m i dp stk h1 h2 h3 => ?_⟩
  · simp only [exNt, List.mem_append, List.mem_singleton] at hx
    rcases hx with hx | rfl
    · exact h.1 x hx
    · decide
  · have hl : (exNt e).1.length = e.1.length + 1 := by simp [exNt]
    rw [hl] at h1 h2 ⊢
    obtain ⟨s1, g1, g2, g3⟩ := h.2 sg sz lt (m + 1) i dp stk (fun k hk => by rw [h1 k (by omega)]; exact gd_l hk) (by omega) h3
    have e1 : sg (i + e.1.length) = -33 := by
      rw [h1 e.1.length (by omega)]
      exact gd_r (k := 0)
    refine ⟨va_up s1 dp (1 - s1 dp), fun j hj => by rw [vu_o _ _ (by omega)]; exact g1 j hj, by rw [vu_s, g2]; rfl, ?_⟩
    rw [show m + (e.1.length + 1) = m + 1 + e.1.length by omega, g3, wo, if_neg (by omega), e1, if_neg (by decide), if_neg (by rintro (z | z); exact absurd z (by decide); omega), if_pos rfl]
    rfl
theorem opOk_s {x : Int32} (h : opOk x = true) : ¬ (-6 : Int32) ≤ x ∧ ¬ x = -59 ∧ ¬ x = -33 ∧ ¬ x = -63 := by
  simp only [opOk, Bool.or_eq_true, decide_eq_true_eq] at h
  rcases h with (((((((h | h) | h) | h) | h) | h) | h) | h) | h <;> subst h <;> decide
theorem RO_op {D E : Nat} {x : Int32} {a b : Ex} (hx : opOk x = true) (ha : RO D a) (hb : RO E b) (hE : E + 1 ≤ D) : RO D (exOp x a b) := by
  obtain ⟨x1, x2, x3, x4⟩ := opOk_s hx
  refine ⟨fun y hy => ?_, fun sg sz lt m i dp stk h1 h2 h3 => ?_⟩
  · simp only [exOp, List.mem_append, List.mem_singleton] at hy
    rcases hy with hy | hy | rfl
    · exact ha.1 y hy
    · exact hb.1 y hy
    · exact x2
  · have hl : (exOp x a b).1.length = a.1.length + (b.1.length + 1) := by simp [exOp]
    rw [hl] at h1 h2 ⊢
    obtain ⟨s1, g1, g2, g3⟩ := ha.2 sg sz lt (m + 1 + b.1.length) i dp stk (fun k hk => by rw [h1 k (by omega)]; exact gd_l hk) (by omega) h3
    obtain ⟨s2, q1, q2, q3⟩ := hb.2 sg sz lt (m + 1) (i + a.1.length) (dp + 1) s1 (fun k hk => by
      rw [Nat.add_assoc, h1 (a.1.length + k) (by omega)]
      show (a.1 ++ (b.1 ++ [x])).getD _ 0 = _
      rw [gd_r, gd_l hk]) (by omega) (by omega)
    have e1 : sg (i + a.1.length + b.1.length) = x := by
      rw [Nat.add_assoc, h1 (a.1.length + b.1.length) (by omega)]
      show (a.1 ++ (b.1 ++ [x])).getD _ 0 = _
      rw [gd_r]
      exact gd_r (k := 0)
    refine ⟨va_up s2 dp (jn x (s2 dp).toInt64 (s2 (dp + 1)).toInt64), fun j hj => by rw [vu_o _ _ (by omega), q1 j (by omega)]; exact g1 j hj, ?_, ?_⟩
    · rw [vu_s, q2, q1 dp (by omega), g2]
      rfl
    · rw [show m + (a.1.length + (b.1.length + 1)) = m + 1 + b.1.length + a.1.length by omega, g3, q3, wo, if_neg (by omega), e1, if_neg x1, if_neg (by rintro (z | z); exact x2 z; omega), if_neg x3, if_neg x4, if_neg (by omega)]
      rw [show dp + 1 + 1 - 1 = dp + 1 by omega, show dp + 1 + 1 - 2 = dp by omega, show i + a.1.length + b.1.length + 1 = i + (a.1.length + (b.1.length + 1)) by omega]
section PARSE
variable (b : Nat → Int32) (L : Nat)
def tat (p : Nat) : Int32 := if p < L then b p else -1
def isMul (c : Int32) : Bool := c = 42 || c = 47
def isAdd (c : Int32) : Bool := c = 43 || c = 45
def isCmp (c : Int32) : Bool := c = 61 || c = 60 || c = 62
def pDg (q : Nat) : Int32 × Nat × Nat := tpDg b L (-1) 4 0 0 q
/-- a closing sign -/
def pEnd {α : Type} (c : Int32) (p : Nat) (a : α) : PR α := if tat b L (tpSkip b L p) = c then pok (tpSkip b L p + 1) a else pno (tpSkip b L p)
def pAtom (inner : Option (Nat → PR Ex)) (p : Nat) : PR Ex :=
  if isDg (tat b L (tpSkip b L p)) = true then (if isDg (tat b L (pDg b L (tpSkip b L p)).2.2) = true then pno (pDg b L (tpSkip b L p)).2.2 else pok (pDg b L (tpSkip b L p)).2.2 (exNum (pDg b L (tpSkip b L p)).1))
  else if ¬ liO 3 (tat b L (tpSkip b L p)) = -1 then pok (tpSkip b L p + 1) (exLet (liO 3 (tat b L (tpSkip b L p))).toNatClampNeg)
  else if tat b L (tpSkip b L p) = 91 then (match inner with
    | none => pno (tpSkip b L p)
    | some f => pB (f (tpSkip b L p + 1)) (fun p' e => pEnd b L 93 p' e))
  else pno (tpSkip b L p)
def pLoop (ops : Int32 → Bool) (sub : Nat → PR Ex) : Nat → Nat → Ex → PR Ex
  | 0, p, e => pok p e
  | m + 1, p, e => if ops (tat b L (tpSkip b L p)) = true then pB (sub (tpSkip b L p + 1)) (fun p' e' => pLoop ops sub m p' (exOp (0 - tat b L (tpSkip b L p)) e e')) else pok (tpSkip b L p) e
def pTerm (inner : Option (Nat → PR Ex)) (p : Nat) : PR Ex := pB (pAtom b L inner p) (pLoop b L isMul (pAtom b L inner) 240)
def pSumI (inner : Option (Nat → PR Ex)) (p : Nat) : PR Ex := pB (pTerm b L inner p) (pLoop b L isAdd (pTerm b L inner) 240)
def pSum : Nat → Nat → PR Ex
  | 0 => pSumI b L none
  | lv + 1 => pSumI b L (some (pSum lv))
def pInn : Nat → Option (Nat → PR Ex)
  | 0 => none
  | lv + 1 => some (pSum b L lv)
theorem pSum_I (lv : Nat) : pSum b L lv = pSumI b L (pInn b L lv) := by cases lv <;> rfl
def pCmp (lv : Nat) (p : Nat) (e : Ex) : PR Ex := if isCmp (tat b L (tpSkip b L p)) = true then pB (pSum b L lv (tpSkip b L p + 1)) (fun p' e' => pok p' (exOp (0 - tat b L (tpSkip b L p)) e e')) else pno (tpSkip b L p)
def pUnitI (lv : Nat) (inner : Option ((Nat → PR Ex) × (Nat → PR Ex))) (p : Nat) : PR Ex :=
  if tat b L (tpSkip b L p) = 33 then (match inner with
    | none => pno (tpSkip b L p)
    | some f => pB (f.1 (tpSkip b L p + 1)) (fun p' e => pok p' (exNt e)))
  else if tat b L (tpSkip b L p) = 40 then (match inner with
    | none => pno (tpSkip b L p)
    | some f => pB (f.2 (tpSkip b L p + 1)) (fun p' e => pEnd b L 41 p' e))
  else pB (pSum b L lv (tpSkip b L p)) (pCmp b L lv)
def is38 (c : Int32) : Bool := c = 38
def is124 (c : Int32) : Bool := c = 124
def pTruL (u : Nat → PR Ex) (p : Nat) (e : Ex) : PR Ex := pLoop b L is38 u 240 p e
def pTru (u : Nat → PR Ex) (p : Nat) : PR Ex := pB (u p) (pTruL b L u)
def pConL (u : Nat → PR Ex) (p : Nat) (e : Ex) : PR Ex := pLoop b L is124 (pTru b L u) 240 p e
def pCon (u : Nat → PR Ex) (p : Nat) : PR Ex := pB (pTru b L u p) (pConL b L u)
def pUnit : Nat → Nat → PR Ex
  | 0 => pUnitI b L 0 none
  | lv + 1 => pUnitI b L (lv + 1) (some (pUnit lv, pCon b L (pUnit lv)))
def pInu : Nat → Option ((Nat → PR Ex) × (Nat → PR Ex))
  | 0 => none
  | lv + 1 => some (pUnit b L lv, pCon b L (pUnit b L lv))
theorem pUnit_I (lv : Nat) : pUnit b L lv = pUnitI b L lv (pInu b L lv) := by cases lv <;> rfl
/-- a condition whose first sum has been read -/
def pTruB (lv : Nat) (p : Nat) (e : Ex) : PR Ex := pB (pCmp b L lv p e) (pTruL b L (pUnit b L lv))
def pConB (lv : Nat) (p : Nat) (e : Ex) : PR Ex := pB (pTruB b L lv p e) (pConL b L (pUnit b L lv))
abbrev Cl : Type := Option Ex × Ex
def pOnly (p : Nat) (e : Ex) : PR Cl := pB (pEnd b L 63 p e) (fun p' _ => pB (pSum b L 6 p') (fun p'' v => pok p'' (some e, v)))
def pClB (s : Nat) : PR Cl :=
  if tat b L s = 33 ∨ tat b L s = 40 then pB (pCon b L (pUnit b L 6) s) (pOnly b L)
  else pB (pSum b L 6 s) (fun p' v => if isCmp (tat b L (tpSkip b L p')) = true then pB (pConB b L 6 (tpSkip b L p') v) (pOnly b L) else pok (tpSkip b L p') (none, v))
def pClause (p : Nat) : PR Cl := pB (pEnd b L 121 p ()) (fun p1 _ => pB (pEnd b L 58 p1 ()) (fun p2 _ => pClB b L (tpSkip b L p2)))
def pLaw : Nat → Nat → PR (List Cl)
  | 0, p => pok p []
  | m + 1, p => pB (pClause b L p) (fun p' cl => if tat b L (tpSkip b L p') = 59 then pB (pLaw m (tpSkip b L p' + 1)) (fun p'' l => pok p'' (cl :: l)) else pok (tpSkip b L p') [cl])
/-- the end of a text -/
def pFin {α : Type} (x : PR α) : PR α := pB x (fun p a => if tat b L (tpSkip b L p) = -1 then pok (tpSkip b L p) a else pno (tpSkip b L p))
def pLawT : PR (List Cl) := pFin b L (pLaw b L 240 0)
end PARSE
/-- what a parser of expressions gives -/
def PG (L D p : Nat) (x : PR Ex) : Prop := match x with
  | .inr r => p < r.1 ∧ r.1 ≤ L ∧ r.2.1.length + p ≤ r.1 ∧ RO D r.2
  | .inl q => q ≤ L
def PGf (L D : Nat) (f : Nat → PR Ex) : Prop := ∀ p, p ≤ L → PG L D p (f p)
section PARSE2
variable {b : Nat → Int32} {L : Nat}
theorem tat_lt {p : Nat} {c : Int32} (h : tat b L p = c) (hc : ¬ c = -1) : p < L := by
  unfold tat at h
  split at h
  · assumption
  · exact absurd h.symm hc
theorem tat_here (p : Nat) : tpHere b L p (-1) = tat b L p := by unfold tpHere tat; rw [if_pos rfl]
theorem tat_dg {p : Nat} (h : isDg (tat b L p) = true) : p < L := by
  unfold tat at h
  split at h
  · assumption
  · exact absurd h (by decide)
/-- digits -/
theorem isDg_N {c : Int32} (h : isDg c = true) : ∃ k, k < 10 ∧ c = nI (48 + k) := by
  simp only [isDg, decide_eq_true_eq] at h
  obtain ⟨j, hj, rfl⟩ := nI_of (Int32.not_lt.mpr (Int32.le_trans (by decide) h.1))
  have h1 := h.1
  have h2 := h.2
  rw [show (48 : Int32) = nI 48 from rfl, nI_leI (by omega) hj] at h1
  rw [show (57 : Int32) = nI 57 from rfl, nI_leI hj (by omega)] at h2
  exact ⟨j - 48, by omega, by rw [show 48 + (j - 48) = j by omega]⟩
theorem tpDg_v {w : Int32} : ∀ (m k r p : Nat), p ≤ L → k < 10 ^ r → ∃ k' r' p', tpDg b L w m (nI k) r p = (nI k', r', p') ∧ k' < 10 ^ r' ∧ r ≤ r' ∧ r' ≤ r + m ∧ p' = p + (r' - r) ∧ p' ≤ L := by
  intro m
  induction m with
  | zero => intro k r p hp hk; exact ⟨k, r, p, rfl, hk, Nat.le_refl _, Nat.le_refl _, by omega, hp⟩
  | succ m ih =>
    intro k r p hp hk
    unfold tpDg
    by_cases hd : isDg (tpHere b L p w) = true
    · rw [if_pos hd]
      obtain ⟨c, hc, e⟩ := isDg_N hd
      have hpl : p < L := by
        unfold tpHere at hd
        split at hd
        · split at hd
          · assumption
          · exact absurd hd (by decide)
        · exact absurd hd (by decide)
      have ep : tpPass L p = p + 1 := by unfold tpPass; rw [if_pos hpl]
      have ev : 10 * nI k + nI (48 + c) - 48 = nI (10 * k + c) := by
        rw [show (10 : Int32) = nI 10 from rfl, pk_mul, nI_add, show (48 : Int32) = nI 48 from rfl, pk_sub (by omega)]
        congr 1
        omega
      rw [e, ev, ep]
      obtain ⟨k', r', p', h1, h2, h3, h4, h5, h6⟩ := ih (10 * k + c) (r + 1) (p + 1) (by omega) (by rw [Nat.pow_succ]; omega)
      exact ⟨k', r', p', h1, h2, by omega, by omega, by omega, h6⟩
    · rw [if_neg hd]
      exact ⟨k, r, p, rfl, hk, Nat.le_refl _, by omega, by omega, hp⟩
theorem tpDg_1 {w : Int32} {m p : Nat} (h : isDg (tpHere b L p w) = true) : ∀ (v : Int32) (r : Nat), p ≤ L → r + 1 ≤ (tpDg b L w (m + 1) v r p).2.1 := by
  have key : ∀ (m : Nat) (v : Int32) (r p : Nat), r ≤ (tpDg b L w m v r p).2.1 := by
    intro m
    induction m with
    | zero => intro v r p; exact Nat.le_refl _
    | succ m ih =>
      intro v r p
      unfold tpDg
      split
      · have := ih (10 * v + tpHere b L p w - 48) (r + 1) (tpPass L p)
        omega
      · exact Nat.le_refl _
  intro v r hp
  unfold tpDg
  rw [if_pos h]
  exact key _ _ _ _
theorem pDg_ok {q : Nat} (hq : isDg (tat b L q) = true) : ∃ k r, pDg b L q = (nI k, r, q + r) ∧ k < 10000 ∧ 1 ≤ r ∧ r ≤ 4 ∧ q + r ≤ L := by
  have hl := tat_dg hq
  obtain ⟨k, r, p', h1, h2, h3, h4, h5, h6⟩ := tpDg_v (b := b) (L := L) (w := -1) 4 0 0 q (by omega) (by decide)
  have h7 := tpDg_1 (b := b) (L := L) (w := -1) (m := 3) (p := q) (by rw [tat_here]; exact hq) 0 0 (by omega)
  unfold pDg
  have h1' : tpDg b L (-1) 4 0 0 q = (nI k, r, p') := h1
  rw [h1'] at h7 ⊢
  have h7' : 1 ≤ r := h7
  refine ⟨k, r, by rw [h5]; rfl, ?_, h7', by omega, by omega⟩
  have : 10 ^ r ≤ 10 ^ 4 := Nat.pow_le_pow_right (by decide) (by omega)
  omega
theorem tpS_sk {p : Nat} (hp : p ≤ L) : p ≤ tpSkip b L p ∧ tpSkip b L p ≤ L := tpSkip_le hp
theorem pEnd_ok {c : Int32} {D p p0 : Nat} {e : Ex} (hc : ¬ c = -1) (hp : p ≤ L) (h : p0 < p ∧ e.1.length + p0 ≤ p ∧ RO D e) : PG L D p0 (pEnd b L c p e) := by
  have hs := tpS_sk (b := b) hp
  unfold pEnd
  split
  · rename_i hz
    have := tat_lt hz hc
    exact ⟨show p0 < tpSkip b L p + 1 by omega, show tpSkip b L p + 1 ≤ L by omega, show e.1.length + p0 ≤ tpSkip b L p + 1 by omega, h.2.2⟩
  · exact hs.2
theorem pAtom_ok {inner : Option (Nat → PR Ex)} {D : Nat} (hD : 1 ≤ D) (hi : ∀ f, inner = some f → PGf L D f) : PGf L D (pAtom b L inner) := by
  intro p hp
  have hs := tpS_sk (b := b) hp
  unfold pAtom
  split
  · rename_i hd
    obtain ⟨k, r, h1, h2, h3, h4, h5⟩ := pDg_ok hd
    rw [h1]
    split
    · exact h5
    · exact ⟨show p < tpSkip b L p + r by omega, h5, show 1 + p ≤ tpSkip b L p + r by omega, RO_num hD (nI_pos' (by omega))⟩
  · split
    · rename_i hl
      rcases liO_nm (j := 3) (x := tat b L (tpSkip b L p)) (by decide) with z | ⟨k, h1, h2, h3⟩
      · exact absurd z hl
      · have hk : k < 6 := h1
        have hlt : tpSkip b L p < L := tat_lt h3.symm (fun z => by have := (cB_ok 3 (by decide) k hk).1; rw [z] at this; exact absurd this (by decide))
        rw [h2, nI_clamp (by omega)]
        exact ⟨show p < tpSkip b L p + 1 by omega, show tpSkip b L p + 1 ≤ L by omega, show 1 + p ≤ tpSkip b L p + 1 by omega, RO_let hD hk⟩
    · split
      · rename_i hc
        have hlt := tat_lt hc (by decide)
        cases inner with
        | none => exact hs.2
        | some f =>
          have := hi f rfl (tpSkip b L p + 1) (by omega)
          show PG L D p (pB (f (tpSkip b L p + 1)) _)
          cases hf : f (tpSkip b L p + 1) with
          | inl q => rw [hf] at this; exact this
          | inr z =>
            obtain ⟨p', e⟩ := z
            rw [hf] at this
            obtain ⟨g1, g2, g3, g4⟩ := this
            dsimp only at g1 g2 g3 g4
            exact pEnd_ok (e := e) (by decide) g2 ⟨by omega, by omega, g4⟩
      · exact hs.2
theorem pLoop_ok {ops : Int32 → Bool} {sub : Nat → PR Ex} {D : Nat} (ho : ∀ c, ops c = true → ¬ c = -1 ∧ opOk (0 - c) = true) (hsub : PGf L D sub) : ∀ (m p p0 : Nat) (e : Ex), p ≤ L → p0 < p → e.1.length + p0 ≤ p → RO (D + 1) e → PG L (D + 1) p0 (pLoop b L ops sub m p e) := by
  intro m
  induction m with
  | zero => intro p p0 e hp h0 h1 h2; exact ⟨h0, hp, h1, h2⟩
  | succ m ih =>
    intro p p0 e hp h0 h1 h2
    have hs := tpS_sk (b := b) hp
    unfold pLoop
    split
    · rename_i hc
      have ho' := ho _ hc
      have hlt : tpSkip b L p < L := tat_lt rfl ho'.1
      have := hsub (tpSkip b L p + 1) (by omega)
      cases hf : sub (tpSkip b L p + 1) with
      | inl q => rw [hf] at this; exact this
      | inr z =>
        obtain ⟨p', e'⟩ := z
        rw [hf] at this
        obtain ⟨g1, g2, g3, g4⟩ := this
        dsimp only at g1 g2 g3 g4
        refine ih p' p0 _ g2 (by omega) ?_ (RO_op ho'.2 h2 g4 (Nat.le_refl _))
        simp only [exOp, List.length_append, List.length_cons, List.length_nil]
        omega
    · exact ⟨show p0 < tpSkip b L p by omega, hs.2, show e.1.length + p0 ≤ tpSkip b L p by omega, h2⟩
theorem PG.mono {D D' p : Nat} {x : PR Ex} (h : PG L D p x) (hD : D ≤ D') : PG L D' p x := by
  cases x with
  | inl q => exact h
  | inr z =>
    exact ⟨h.1, h.2.1, h.2.2.1, h.2.2.2.mono hD⟩
theorem bindL_ok {ops : Int32 → Bool} {sub : Nat → PR Ex} {D p0 : Nat} {x : PR Ex} (ho : ∀ c, ops c = true → ¬ c = -1 ∧ opOk (0 - c) = true) (hsub : PGf L D sub) (hx : PG L D p0 x) : PG L (D + 1) p0 (pB x (pLoop b L ops sub 240)) := by
  cases x with
  | inl q => exact hx
  | inr z =>
    obtain ⟨p', e⟩ := z
    obtain ⟨g1, g2, g3, g4⟩ := hx
    exact pLoop_ok ho hsub 240 p' p0 e g2 g1 g3 (g4.mono (by omega))
theorem isMul_ok : ∀ c, isMul c = true → ¬ c = -1 ∧ opOk (0 - c) = true := by
  intro c h
  simp only [isMul, Bool.or_eq_true, decide_eq_true_eq] at h
  rcases h with rfl | rfl <;> decide
theorem isAdd_ok : ∀ c, isAdd c = true → ¬ c = -1 ∧ opOk (0 - c) = true := by
  intro c h
  simp only [isAdd, Bool.or_eq_true, decide_eq_true_eq] at h
  rcases h with rfl | rfl <;> decide
theorem isCmp_ok : ∀ c, isCmp c = true → ¬ c = -1 ∧ opOk (0 - c) = true := by
  intro c h
  simp only [isCmp, Bool.or_eq_true, decide_eq_true_eq] at h
  rcases h with (rfl | rfl) | rfl <;> decide
theorem is38_ok : ∀ c, is38 c = true → ¬ c = -1 ∧ opOk (0 - c) = true := by
  intro c h
  simp only [is38, decide_eq_true_eq] at h
  subst h; decide
theorem is124_ok : ∀ c, is124 c = true → ¬ c = -1 ∧ opOk (0 - c) = true := by
  intro c h
  simp only [is124, decide_eq_true_eq] at h
  subst h; decide
theorem pTerm_ok {inner : Option (Nat → PR Ex)} {D : Nat} (hD : 1 ≤ D) (hi : ∀ f, inner = some f → PGf L D f) : PGf L (D + 1) (pTerm b L inner) := fun p hp => bindL_ok isMul_ok (pAtom_ok hD hi) (pAtom_ok hD hi p hp)
theorem pSumI_ok {inner : Option (Nat → PR Ex)} {D : Nat} (hD : 1 ≤ D) (hi : ∀ f, inner = some f → PGf L D f) : PGf L (D + 2) (pSumI b L inner) := fun p hp => bindL_ok isAdd_ok (pTerm_ok hD hi) (pTerm_ok hD hi p hp)
theorem pSum_ok : ∀ lv, PGf L (2 * lv + 3) (pSum b L lv)
  | 0 => pSumI_ok (D := 1) (Nat.le_refl _) (fun f h => by cases h)
  | lv + 1 => by
    have h := pSumI_ok (b := b) (L := L) (inner := some (pSum b L lv)) (D := 2 * lv + 3) (by omega) (fun f h => by cases h; exact pSum_ok lv)
    exact h
theorem pInn_ok (lv : Nat) : ∀ f, pInn b L lv = some f → PGf L (2 * lv + 1) f := by
  cases lv with
  | zero => intro f h; cases h
  | succ lv => intro f h; cases h; exact pSum_ok lv
theorem pCmp_ok {lv p p0 : Nat} {e : Ex} (hp : p ≤ L) (h0 : p0 < p) (h1 : e.1.length + p0 ≤ p) (h2 : RO (2 * lv + 3) e) : PG L (2 * lv + 4) p0 (pCmp b L lv p e) := by
  have hs := tpS_sk (b := b) hp
  unfold pCmp
  split
  · rename_i hc
    have ho' := isCmp_ok _ hc
    have hlt : tpSkip b L p < L := tat_lt rfl ho'.1
    have := pSum_ok (b := b) (L := L) lv (tpSkip b L p + 1) (by omega)
    cases hf : pSum b L lv (tpSkip b L p + 1) with
    | inl q => rw [hf] at this; exact this
    | inr z =>
      obtain ⟨p', e'⟩ := z
      rw [hf] at this
      obtain ⟨g1, g2, g3, g4⟩ := this
      dsimp only at g1 g2 g3 g4
      refine ⟨show p0 < p' by omega, g2, ?_, RO_op ho'.2 (h2.mono (by omega)) g4 (Nat.le_refl _)⟩
      show (exOp (0 - tat b L (tpSkip b L p)) e e').1.length + p0 ≤ p'
      simp only [exOp, List.length_append, List.length_cons, List.length_nil]
      omega
  · exact hs.2
theorem pUnitI_ok {lv D : Nat} {inner : Option ((Nat → PR Ex) × (Nat → PR Ex))} (hD : 2 * lv + 4 ≤ D) (hi : ∀ f, inner = some f → PGf L D f.1 ∧ PGf L D f.2) : PGf L D (pUnitI b L lv inner) := by
  intro p hp
  have hs := tpS_sk (b := b) hp
  unfold pUnitI
  split
  · rename_i hc
    have hlt := tat_lt hc (by decide)
    cases inner with
    | none => exact hs.2
    | some f =>
      have := (hi f rfl).1 (tpSkip b L p + 1) (by omega)
      show PG L D p (pB (f.1 (tpSkip b L p + 1)) _)
      cases hf : f.1 (tpSkip b L p + 1) with
      | inl q => rw [hf] at this; exact this
      | inr z =>
        obtain ⟨p', e⟩ := z
        rw [hf] at this
        obtain ⟨g1, g2, g3, g4⟩ := this
        dsimp only at g1 g2 g3 g4
        refine ⟨show p < p' by omega, g2, ?_, RO_nt g4⟩
        show (exNt e).1.length + p ≤ p'
        simp only [exNt, List.length_append, List.length_cons, List.length_nil]
        omega
  · split
    · rename_i hc
      have hlt := tat_lt hc (by decide)
      cases inner with
      | none => exact hs.2
      | some f =>
        have := (hi f rfl).2 (tpSkip b L p + 1) (by omega)
        show PG L D p (pB (f.2 (tpSkip b L p + 1)) _)
        cases hf : f.2 (tpSkip b L p + 1) with
        | inl q => rw [hf] at this; exact this
        | inr z =>
          obtain ⟨p', e⟩ := z
          rw [hf] at this
          obtain ⟨g1, g2, g3, g4⟩ := this
          dsimp only at g1 g2 g3 g4
          exact pEnd_ok (e := e) (by decide) g2 ⟨by omega, by omega, g4⟩
    · have := pSum_ok (b := b) (L := L) lv (tpSkip b L p) hs.2
      cases hf : pSum b L lv (tpSkip b L p) with
      | inl q => rw [hf] at this; exact this
      | inr z =>
        obtain ⟨p', e⟩ := z
        rw [hf] at this
        obtain ⟨g1, g2, g3, g4⟩ := this
        dsimp only at g1 g2 g3 g4
        exact (pCmp_ok g2 (by omega) (by omega) g4).mono hD
theorem pTru_ok {D : Nat} {u : Nat → PR Ex} (h : PGf L D u) : PGf L (D + 1) (pTru b L u) := fun p hp => bindL_ok is38_ok h (h p hp)
theorem pCon_ok {D : Nat} {u : Nat → PR Ex} (h : PGf L D u) : PGf L (D + 2) (pCon b L u) := fun p hp => bindL_ok is124_ok (pTru_ok h) (pTru_ok h p hp)
theorem pUnit_ok : ∀ lv, PGf L (2 * lv + 4) (pUnit b L lv)
  | 0 => pUnitI_ok (Nat.le_refl _) (fun f h => by cases h)
  | lv + 1 => by
    refine pUnitI_ok (by omega) (fun f h => ?_)
    cases h
    exact ⟨fun p hp => (pUnit_ok lv p hp).mono (by omega), fun p hp => (pCon_ok (pUnit_ok lv) p hp).mono (by omega)⟩
theorem pInu_ok (lv : Nat) : ∀ f, pInu b L lv = some f → PGf L (2 * lv + 4) f.1 ∧ PGf L (2 * lv + 4) f.2 := by
  cases lv with
  | zero => intro f h; cases h
  | succ lv =>
    intro f h
    cases h
    exact ⟨fun p hp => (pUnit_ok lv p hp).mono (by omega), fun p hp => (pCon_ok (pUnit_ok lv) p hp).mono (by omega)⟩
theorem tpSk_stop : ∀ (n p : Nat), L ≤ p + n → L ≤ tpSk b L n p ∨ ¬ b (tpSk b L n p) = 32
  | 0, p, h => Or.inl h
  | n + 1, p, h => by
    unfold tpSk
    split
    · exact tpSk_stop n (p + 1) (by omega)
    · rename_i hc
      by_cases hp : p < L
      · exact Or.inr (fun z => hc ⟨hp, z⟩)
      · exact Or.inl (by show L ≤ p; omega)
theorem tpSkip_id {p : Nat} (hp : p ≤ L) : tpSkip b L (tpSkip b L p) = tpSkip b L p := by
  have h := tpSk_stop (b := b) (L := L) (L - p) p (by omega)
  have hs := tpSkip_le (b := b) hp
  generalize hq : tpSkip b L p = q at hs
  have hq' : tpSk b L (L - p) p = q := hq
  rw [hq'] at h
  unfold tpSkip
  cases hn : L - q with
  | zero => rfl
  | succ k =>
    unfold tpSk
    rw [if_neg]
    rintro ⟨z1, z2⟩
    rcases h with h | h
    · omega
    · exact h z2
end PARSE2
