/-! THE REFERENCE: merits -/
theorem b_test0 {x : Int32} {p : Nat} (hp : p < 31) : (x >>> (nI p &&& 31)) &&& 1 = 0 ↔ bt x p = false := by
  rw [bit01 hp, hsB_bt hp]
  cases bt x p with
  | true => simp
  | false => simp
/-- how many of the first are -/
def ctB (g : Nat → Bool) : Nat → Nat
  | 0 => 0
  | k + 1 => ctB g k + (if g k = true then 1 else 0)
theorem ctB_congr {g g' : Nat → Bool} : ∀ (N : Nat), (∀ q, q < N → g q = g' q) → ctB g N = ctB g' N := by
  intro N
  induction N with
  | zero => intro _; rfl
  | succ k ih =>
    intro h
    rw [ctB, ctB, ih (fun q hq => h q (by omega)), h k (by omega)]
theorem ctB_less {g g' : Nat → Bool} {p : Nat} : ∀ (N : Nat), p < N → g p = true → g' p = false → (∀ q, q < N → q ≠ p → g q = g' q) → ctB g N = ctB g' N + 1 := by
  intro N
  induction N with
  | zero => intro h; omega
  | succ k ih =>
    intro hp h1 h2 h3
    rw [ctB, ctB]
    by_cases hk : p = k
    · subst hk
      rw [h1, h2, ctB_congr p (fun q hq => h3 q (by omega) (by omega))]
      simp
    · rw [ih (by omega) h1 h2 (fun q hq hqp => h3 q (by omega) hqp), h3 k (by omega) (Ne.symm hk)]
      omega
theorem ctB_none {g : Nat → Bool} : ∀ (N : Nat), (∀ q, q < N → g q = false) → ctB g N = 0 := by
  intro N
  induction N with
  | zero => intro _; rfl
  | succ k ih =>
    intro h
    rw [ctB, ih (fun q hq => h q (by omega)), h k (by omega)]
    rfl
theorem ctB_all {g : Nat → Bool} : ∀ (N : Nat), (∀ q, q < N → g q = true) → ctB g N = N := by
  intro N
  induction N with
  | zero => intro _; rfl
  | succ k ih =>
    intro h
    rw [ctB, ih (fun q hq => h q (by omega)), h k (by omega)]
    rfl
/-- the class takes the first of the most -/
theorem meI_some {mr : Nat → Int32} {nm : Int32} {p N : Nat} (hN : N ≤ 7) (hp : bt nm p = false) (hmax : ∀ q, q < N → bt nm q = false → (mr q < mr p ∨ (mr q = mr p ∧ p ≤ q))) : ∀ (m i : Nat) (o : Option Nat), i + m = N → ((i ≤ p ∧ p < N ∧ ∀ j, o = some j → mr j < mr p) ∨ (p < i ∧ o = some p)) → meI mr nm m i o = some p := by
  intro m
  induction m with
  | zero =>
    intro i o hi h
    rcases h with ⟨h1, h2, -⟩ | ⟨-, h⟩
    · omega
    · exact h
  | succ m ih =>
    intro i o hi h
    rw [meI]
    refine ih (i + 1) _ (by omega) ?_
    rcases h with ⟨h1, h2, h3⟩ | ⟨h1, rfl⟩
    · by_cases hip : i = p
      · subst hip
        rw [if_pos ⟨(b_test0 (by omega)).mpr hp, h3⟩]
        exact Or.inr ⟨by omega, rfl⟩
      · refine Or.inl ⟨by omega, h2, fun j hj => ?_⟩
        split at hj
        · rename_i hc
          cases hj
          have hb := (b_test0 (by omega)).mp hc.1
          rcases hmax i (by omega) hb with h | h
          · exact h
          · omega
        · exact h3 j hj
    · refine Or.inr ⟨by omega, ?_⟩
      rw [if_neg]
      rintro ⟨hb, hlt⟩
      have hb' := (b_test0 (by omega)).mp hb
      have h2 := hlt p rfl
      rcases hmax i (by omega) hb' with h | h
      · rw [Int32.lt_iff_toInt_lt] at h h2
        omega
      · rw [h.1, Int32.lt_iff_toInt_lt] at h2
        omega
/-- who is still to come: of less merit than M, or of M and from p on -/
def toC (mr : Nat → Int32) (M : Int32) (p q : Nat) : Bool := decide (mr q < M ∨ (mr q = M ∧ p ≤ q))
/-- the class has come as far as the reference -/
def MeQ (mr : Nat → Int32) (n : Nat) (V M : Int32) (p : Nat) (dg : Int32) : Prop := ∃ nm, (∀ q, q < n → bt nm q = !toC mr M p q) ∧ meR mr n (ctB (toC mr M p) n) (dg, nm) = V
theorem MeQ.yes {mr : Nat → Int32} {n p : Nat} {V M dg : Int32} (hn : n ≤ 7) (h : MeQ mr n V M p dg) (hp : p < n) (e : mr p = M) : MeQ mr n V M (p + 1) (10 * dg + nI p) := by
  obtain ⟨nm, h1, h2⟩ := h
  have hc : ctB (toC mr M p) n = ctB (toC mr M (p + 1)) n + 1 := by
    refine ctB_less (p := p) n hp ?_ ?_ (fun q hq hqp => ?_)
    · exact decide_eq_true (Or.inr ⟨e, Nat.le_refl _⟩)
    · refine decide_eq_false (fun z => ?_)
      rcases z with z | z
      · rw [e, Int32.lt_iff_toInt_lt] at z; omega
      · omega
    · unfold toC
      congr 1
      apply propext
      have : (p ≤ q) ↔ (p + 1 ≤ q) := by omega
      rw [this]
  have hpf : bt nm p = false := by
    rw [h1 p hp]
    unfold toC
    rw [decide_eq_true (Or.inr ⟨e, Nat.le_refl _⟩)]
    rfl
  have hpick : meI mr nm n 0 none = some p := by
    refine meI_some hn hpf (fun q hq hb => ?_) n 0 none (by omega) (Or.inl ⟨by omega, hp, fun j hj => by cases hj⟩)
    rw [h1 q hq] at hb
    have hb' : toC mr M p q = true := by
      cases hh : toC mr M p q with
      | true => rfl
      | false => rw [hh] at hb; cases hb
    have := of_decide_eq_true hb'
    rw [e]
    exact this
  rw [hc, meR, hpick] at h2
  refine ⟨_, fun q hq => ?_, h2⟩
  show bt (nm ||| (1 <<< (nI p &&& 31))) q = _
  rw [b_or, h1 q hq, b_one (by omega) (by omega)]
  unfold toC
  by_cases hqp : q = p
  · subst hqp
    rw [decide_eq_true (show q = q from rfl), Bool.or_true]
    rw [decide_eq_false]
    · rfl
    · intro z
      rcases z with z | z
      · rw [e, Int32.lt_iff_toInt_lt] at z; omega
      · omega
  · rw [decide_eq_false hqp, Bool.or_false]
    congr 2
    apply propext
    have : (p ≤ q) ↔ (p + 1 ≤ q) := by omega
    rw [this]
theorem MeQ.no {mr : Nat → Int32} {n p : Nat} {V M dg : Int32} (h : MeQ mr n V M p dg) (e : ¬ mr p = M) : MeQ mr n V M (p + 1) dg := by
  obtain ⟨nm, h1, h2⟩ := h
  have he : ∀ q, toC mr M p q = toC mr M (p + 1) q := by
    intro q
    unfold toC
    congr 1
    apply propext
    constructor
    · rintro (z | z)
      · exact Or.inl z
      · refine Or.inr ⟨z.1, ?_⟩
        have : q ≠ p := fun y => e (by rw [← y]; exact z.1)
        omega
    · rintro (z | z)
      · exact Or.inl z
      · exact Or.inr ⟨z.1, by omega⟩
  refine ⟨nm, fun q hq => by rw [← he]; exact h1 q hq, ?_⟩
  rw [← ctB_congr n (fun q _ => he q)]
  exact h2
/-- from a merit to the next -/
theorem MeQ.next {mr : Nat → Int32} {n k : Nat} {V dg : Int32} (hk : k ≤ 9) (h : MeQ mr n V (nI k) n dg) : MeQ mr n V (nI k - 1) 0 dg := by
  obtain ⟨nm, h1, h2⟩ := h
  have he : ∀ q, q < n → toC mr (nI k) n q = toC mr (nI k - 1) 0 q := by
    intro q hq
    unfold toC
    congr 1
    apply propext
    have hk' : (nI k - 1).toInt = (k : Int) - 1 := by rw [show (1 : Int32) = nI 1 from rfl, pk_sub_toInt (by omega) (by omega)]; rfl
    rw [Int32.lt_iff_toInt_lt, Int32.lt_iff_toInt_lt, nI_toInt (by omega), hk']
    constructor
    · rintro (z | z)
      · by_cases hq2 : (mr q).toInt = (k : Int) - 1
        · exact Or.inr ⟨Int32.toInt_inj.mp (by rw [hq2, hk']), by omega⟩
        · exact Or.inl (by omega)
      · omega
    · rintro (z | z)
      · exact Or.inl (by omega)
      · have := congrArg Int32.toInt z.1
        rw [hk'] at this
        exact Or.inl (by omega)
  refine ⟨nm, fun q hq => by rw [← he q hq]; exact h1 q hq, ?_⟩
  rw [← ctB_congr n he]
  exact h2
section REFMERIT
variable {G : ph_G} {d f dr t n r ev wi sz lg a : Nat} {hi hi' : Nat → Nat → Int32} {hl : Nat → Nat → Int64} {Q : Option Value → ph_H → Prop} {row : Nat → Int32} {lw : Option Nat}
theorem c_rmer_in {mr : Nat → Int32} {k : Nat} {V : Int32} (hn : n ≤ 7) (h26 : hi 58 26 = nI n) (hmr : ∀ p, p < n → hi 65 (p * 5 + 1) = mr p)
    (K : ∀ dg x3, MeQ mr n V (nI k) n dg → wq G (0, 0) (d + 1) 279 60 [some (.ref 58), some (.int dg), some (.int (nI k)), x3] [] (0, 0) (HP hi hl f dr t) Q) :
    ∀ (m p : Nat) (dg : Int32), p + m = n → MeQ mr n V (nI k) p dg →
    wq G (0, 0) (d + 1) 279 25 [some (.ref 58), some (.int dg), some (.int (nI k)), some (.int (nI p))] [] (0, 0) (HP hi hl f dr t) Q := by
  have ec : hI (HP hi hl f dr t) 58 26 = nI n := h26
  intro m
  induction m with
  | zero =>
    intro p dg hm hM
    obtain rfl : p = n := by omega
    refine wq_iload_n q279_25 rfl ?_
    refine wq_aload_n q279_26 rfl ?_
    refine wq_getI q279_27 rfl rfl ?_
    refine wq_icmp_ge q279_30 (fun c30 => ?_) (fun c30 => ?_)
    · exact K dg _ hM
    · rw [ec] at c30
      exact absurd (nI_le (Nat.le_refl _) (by omega)) c30
  | succ m ih =>
    intro p dg hm hM
    refine wq_iload_n q279_25 rfl ?_
    refine wq_aload_n q279_26 rfl ?_
    refine wq_getI q279_27 rfl rfl ?_
    refine wq_icmp_ge q279_30 (fun c30 => ?_) (fun c30 => ?_)
    · rw [ec, nI_leI (by omega) (by omega)] at c30
      omega
    · refine wq_aload_n q279_33 rfl ?_
      refine wq_iload_n q279_34 rfl ?_
      refine wq_iconst q279_35 ?_
      refine cV (As := [_, _]) q279_36 m_211 rfl rfl rfl ⟨by decide, rfl⟩ rfl (c_toldH (w := 1) (by omega) (by omega) ?_)
      rw [hmr p (by omega)]
      refine wq_iload_n q279_39 rfl ?_
      refine wq_icmp_ne q279_40 (fun c40 => ?_) (fun c40 => ?_)
      · refine wq_iload_n q279_52 rfl ?_
        refine wq_istore_n (ls' := [_, _, _, _]) q279_53 rfl ?_
        refine wq_iinc (ls' := [_, _, _, _]) q279_54 rfl rfl ?_
        refine wq_goto q279_57 ?_
        rw [nI_1]
        exact ih (p + 1) dg (by omega) (hM.no c40)
      · refine wq_bipush q279_43 ?_
        refine wq_iload_n q279_45 rfl ?_
        refine wq_imul q279_46 ?_
        refine wq_iload_n q279_47 rfl ?_
        refine wq_iadd q279_48 ?_
        refine wq_goto q279_49 ?_
        refine wq_istore_n (ls' := [_, _, _, _]) q279_53 rfl ?_
        refine wq_iinc (ls' := [_, _, _, _]) q279_54 rfl rfl ?_
        refine wq_goto q279_57 ?_
        rw [nI_1]
        exact ih (p + 1) _ (by omega) (hM.yes hn (by omega) c40)
theorem c_rmer_out {mr : Nat → Int32} {V : Int32} {x3 : Option Value} (hn : n ≤ 7) (h26 : hi 58 26 = nI n) (hmr : ∀ p, p < n → hi 65 (p * 5 + 1) = mr p) (hmr0 : ∀ p, p < n → 0 ≤ mr p) (hQ : Q (some (.int V)) (HP hi hl f dr t)) :
    ∀ (k : Nat) (dg : Int32) (x3 : Option Value), k ≤ 10 → MeQ mr n V (nI k - 1) 0 dg →
    wq G (0, 0) (d + 1) 279 19 [some (.ref 58), some (.int dg), some (.int (nI k - 1)), x3] [] (0, 0) (HP hi hl f dr t) Q := by
  intro k
  induction k with
  | zero =>
    intro dg x3 hk hM
    obtain ⟨nm, -, h2⟩ := hM
    rw [ctB_none n (fun q hq => ?_), meR] at h2
    · refine wq_iload_n q279_19 rfl ?_
      refine wq_if_lt q279_20 (fun c20 => ?_) (fun c20 => ?_)
      · refine wq_iload_n q279_66 rfl ?_
        refine rI q279_67 rfl ?_
        have h2 : dg = V := h2
        rw [h2]
        exact hQ
      · exact absurd (by decide) c20
    · have h0 := hmr0 q hq
      refine decide_eq_false (fun z => ?_)
      rw [Int32.le_iff_toInt_le, show (0 : Int32).toInt = 0 from rfl] at h0
      rcases z with z | z
      · rw [Int32.lt_iff_toInt_lt, show (nI 0 - 1).toInt = -1 by decide] at z
        omega
      · rw [z.1, show (nI 0 - 1).toInt = -1 by decide] at h0
        omega
  | succ k ih =>
    intro dg x3 hk hM
    rw [nI_pred] at hM ⊢
    refine wq_iload_n q279_19 rfl ?_
    refine wq_if_lt q279_20 (fun c20 => ?_) (fun c20 => ?_)
    · exact absurd c20 (nI_pos (by omega))
    · refine wq_iconst q279_23 ?_
      refine wq_istore_n (ls' := [_, _, _, _]) q279_24 rfl ?_
      refine c_rmer_in hn h26 hmr (fun dg' x3 hM' => ?_) n 0 dg (by omega) hM
      refine wq_iinc (ls' := [_, _, _, _]) q279_60 rfl rfl ?_
      refine wq_goto q279_63 ?_
      rw [i32_m1]
      exact ih dg' _ (by omega) (hM'.next (by omega))
theorem c_rmerits (hF : RF hi f lw sz n ev wi) (hQ : Q (some (.int (meR (fun p => hi (f + 2) (p * 5 + 1)) n n (0, 0)))) (HP (up2 hi 58 0 0) hl f dr t)) : Ct G (0, 0) (d + 1) 279 [.ref 58] (HP hi hl f dr t) Q := by
  have hn := hF.2.1.1
  have hn1 := hF.2.1.2.1
  have e26 : hI (HP (up2 hi 58 0 0) hl f dr t) 58 26 = nI n := hF.2.2.1.1
  have hb := hF.2.2.2.1.2.1
  have hB : ∀ p, p < n → 0 ≤ (hi (f + 2) (p * 5 + 1)).toInt ∧ (hi (f + 2) (p * 5 + 1)).toInt ≤ 9 := fun p hp => by
    obtain ⟨h1, h2⟩ := hb p 1 hp (by decide)
    rw [Int32.le_iff_toInt_le, show (fLo 1 1).toInt = 0 by decide] at h1
    rw [Int32.le_iff_toInt_le, show (fHi 1 1).toInt = 9 by decide] at h2
    exact ⟨h1, h2⟩
  refine Ct_of (ls := [_, _, _, _]) m_279.1.2.2.1 (Nat.le_of_ble_eq_true rfl) rfl ?_
  refine wq_aload_n q279_0 rfl ?_
  refine wq_iconst q279_1 ?_
  refine wq_putI q279_2 rfl rfl rfl rfl ?_
  rw [hpS]
  refine wq_aload_n q279_5 rfl ?_
  refine wq_getI q279_6 rfl rfl ?_
  refine wq_if_ne q279_9 (fun c9 => ?_) (fun c9 => ?_)
  · refine wq_iconst q279_14 ?_
    refine wq_istore_n (ls' := [_, _, _, _]) q279_15 rfl ?_
    refine wq_bipush q279_16 ?_
    refine wq_istore_n (ls' := [_, _, _, _]) q279_18 rfl ?_
    refine c_rmer_out (hi := up2 hi 58 0 0) (mr := fun p => hi (f + 2) (p * 5 + 1)) (x3 := none) hn hF.2.2.1.1 (fun p hp => hF.2.2.1.2.2.2.1 _ (by omega)) (fun p hp => by rw [Int32.le_iff_toInt_le]; exact (hB p hp).1) hQ 10 0 _ (by omega) ⟨0, fun q hq => ?_, ?_⟩
    · rw [b_0]
      unfold toC
      rw [decide_eq_true]
      · rfl
      · have := hB q hq
        by_cases h9 : (hi (f + 2) (q * 5 + 1)).toInt = 9
        · exact Or.inr ⟨Int32.toInt_inj.mp (by rw [h9]; decide), by omega⟩
        · refine Or.inl ?_
          show hi (f + 2) (q * 5 + 1) < _
          rw [Int32.lt_iff_toInt_lt, show (nI 10 - 1).toInt = 9 by decide]
          omega
    · rw [ctB_all n (fun q hq => ?_)]
      have := hB q hq
      refine decide_eq_true ?_
      by_cases h9 : (hi (f + 2) (q * 5 + 1)).toInt = 9
      · exact Or.inr ⟨Int32.toInt_inj.mp (by rw [h9]; decide), by omega⟩
      · refine Or.inl ?_
        show hi (f + 2) (q * 5 + 1) < _
        rw [Int32.lt_iff_toInt_lt, show (nI 10 - 1).toInt = 9 by decide]
        omega
  · rw [e26] at c9
    exact absurd c9 (nI_ne0 (by omega) (by omega))
end REFMERIT
