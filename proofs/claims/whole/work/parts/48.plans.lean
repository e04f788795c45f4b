/-! THE CLASS: plans -/
theorem taR_low {hi : Nat → Nat → Int32} {f : Nat} {lw : Option Nat} {sz n : Nat} {s : Nat → Nat} {wi te : Nat} {cost : Int32} {hold : Bool} {j : Nat} (hte : te < 7) (hj : (j < 7 ∨ 28 ≤ j) ∧ j ≠ 31) : ∀ (m v : Nat) (x : taX), (taR hi f lw sz n s wi te cost hold m v x).2.1 j = x.2.1 j := by
  intro m
  induction m with
  | zero => intro v x; rfl
  | succ m ih =>
    intro v x
    unfold taR
    rw [ih]
    unfold taS
    split
    · show va_up _ 31 _ j = _
      rw [vu_o _ _ hj.2, heR_low hte hj.1 7 0 _ (by omega)]
    · rfl
theorem chg_2 {hi : Nat → Nat → Int32} {f : Nat} {lw : Option Nat} {sz n ev : Nat} {s : Nat → Nat} {wi : Nat} {row : Nat → Int32} {hd : Int32} {j : Nat} (hte : s wi < 7) (hn : n ≤ 7) (hj : (j < 7 ∨ j = 28 ∨ j = 32)) : wtR (tellR hi f lw sz n ev s wi (hi (f + 1) 3) false row).1 (s wi) hd n j = row j := by
  unfold wtR
  rw [vu_o _ _ (by omega), vu_o _ _ (by omega)]
  unfold wtA
  rw [if_neg (by omega), vu_o _ _ (by omega)]
  exact taR_low hte (by omega) _ _ _
theorem swR_high {row : Nat → Int32} {n : Nat} {p q : Int32} {j : Nat} (hn : n ≤ 7) (hj : 7 ≤ j) : swR row n p q j = row j := by
  have l1 := ceOf_le (row := row) (p := p) (n - 1) 0
  have l2 := ceOf_le (row := row) (p := q) (n - 1) 0
  unfold swR
  rw [vu_o _ _ (by omega), vu_o _ _ (by omega)]
/-- a step leaves the sits right, and the day -/
theorem chg_ok {hi : Nat → Nat → Int32} {f : Nat} {lw : Option Nat} {sz n ev wi dy : Nat} {row : Nat → Int32} {kd fi se : Int32} (hk : FoK hi f n ev wi) (hs : Sit row n) (hd : row 32 = nI dy) (hdy : dy ≤ 9999) (hb : canB hi f row n kd fi se = true) : Sit (chg hi f lw sz n ev (sOf row) wi row kd fi se) n ∧ ∃ dy', dy' ≤ 9999 ∧ chg hi f lw sz n ev (sOf row) wi row kd fi se 32 = nI dy' := by
  obtain ⟨hn, hn1, hev, hwi, hc, hc4, hc0⟩ := hk
  have hte := (hs.si wi hwi).2
  have hr7 := riR_7 (b := fun i => row (7 + i)) hn
  unfold chg
  by_cases h0 : kd = 0
  · rw [if_pos h0]
    exact ⟨fun c hc' => by rw [vu_o _ _ (by omega)]; exact hs c hc', dy, hdy, by rw [vu_o _ _ (by omega)]; exact hd⟩
  · rw [if_neg h0]
    by_cases h1 : kd = 1
    · rw [if_pos h1]
      have hb' := hb
      unfold canB at hb'
      rw [if_neg h0, if_pos h1, hc] at hb'
      simp only [Bool.and_eq_true] at hb'
      obtain ⟨p, hp, rfl⟩ := inB_N (m := n) (by omega) hb'.2.1.1
      obtain ⟨q, hq, rfl⟩ := inB_N (m := n) (by omega) hb'.2.1.2
      exact ⟨hs.sw (by omega) (by omega), dy, hdy, by rw [swR_high hn (by omega)]; exact hd⟩
    · rw [if_neg h1]
      by_cases h2 : kd = 2
      · rw [if_pos h2]
        exact ⟨fun c hc' => by rw [chg_2 hte hn (by omega)]; exact hs c hc', dy, hdy, by rw [chg_2 hte hn (by omega)]; exact hd⟩
      · rw [if_neg h2]
        by_cases h3 : kd = 3
        · rw [if_pos h3]
          exact ⟨fun c hc' => by rw [vu_o _ _ (by omega), vu_o _ _ (by omega)]; exact hs c hc', dy, hdy, by rw [vu_o _ _ (by omega), vu_o _ _ (by omega)]; exact hd⟩
        · rw [if_neg h3]
          unfold canB at hb
          rw [if_neg h0, if_neg h1, if_neg h2, if_neg h3, hd] at hb
          simp only [Bool.and_eq_true, decide_eq_true_eq] at hb
          have := hb.2
          rw [show (9999 : Int32) = nI 9999 from rfl, nI_ltI (by omega) (by omega)] at this
          exact ⟨fun c hc' => by rw [edR_low (by omega)]; exact hs c hc', dy + 1, by omega, by rw [edR_32, hd]; exact nI_1 dy⟩
theorem canB_congr {hi hi' : Nat → Nat → Int32} {f : Nat} {lw : Option Nat} (h : FLs f lw hi hi') {row : Nat → Int32} {n : Nat} {kd fi se : Int32} : canB hi' f row n kd fi se = canB hi f row n kd fi se := by
  unfold canB
  rw [h.1, h.2.1]
section PLANS
variable {G : ph_G} {d a r n f dr t sz : Nat} {hi : Nat → Nat → Int32} {hl : Nat → Nat → Int64} {Q : Option Value → ph_H → Prop} {lw : Option Nat}
/-- a plan: how many steps, and its parts -/
def PlK (hi : Nat → Nat → Int32) (k st : Nat) (P : Nat → Int32) : Prop := k < 5 ∧ st ≤ 16 ∧ hi (16 + 5 * k) 1 = nI st ∧ hi (17 + 5 * k) = P
theorem Pk_s {k : Nat} (hk : k < 5) (hi : Nat → Nat → Int32) (hl : Nat → Nat → Int64) (f dr t : Nat) : (hS (HP hi hl f dr t))[16 + 5 * k]? = some (6, 2) ∧ hR (HP hi hl f dr t) (16 + 5 * k) 0 = some (17 + 5 * k) ∧ (hS (HP hi hl f dr t))[17 + 5 * k]? = some (100, 48) ∧ hR (HP hi hl f dr t) 12 k = some (16 + 5 * k) := by
  have : k = 0 ∨ k = 1 ∨ k = 2 ∨ k = 3 ∨ k = 4 := by omega
  rcases this with rfl | rfl | rfl | rfl | rfl <;> exact ⟨rfl, rfl, rfl, rfl⟩
theorem Pk_in {k : Nat} (hk : k < 5) {S : List Nat} (hS : ∀ b, b ∈ S → b ∈ (45 :: 48 :: 49 :: 52 :: 39 :: 41 :: 43 :: scr0)) : (16 + 5 * k) ∉ S ∧ (17 + 5 * k) ∉ S := by
  have : k = 0 ∨ k = 1 ∨ k = 2 ∨ k = 3 ∨ k = 4 := by omega
  rcases this with rfl | rfl | rfl | rfl | rfl <;> exact ⟨fun z => absurd (hS _ z) (by decide), fun z => absurd (hS _ z) (by decide)⟩
theorem PlK.moved {k st : Nat} {P : Nat → Int32} {S : List Nat} {hi' : Nat → Nat → Int32} (h : PlK hi k st P) (hs : Same S hi hi') (hS : ∀ b, b ∈ S → b ∈ (45 :: 48 :: 49 :: 52 :: 39 :: 41 :: 43 :: scr0)) : PlK hi' k st P := by
  obtain ⟨h1, h2, h3, h4⟩ := h
  have hk := Pk_in h1 hS
  exact ⟨h1, h2, by rw [hs _ hk.1]; exact h3, by rw [hs _ hk.2]; exact h4⟩
theorem c_partP {k st i w : Nat} {P : Nat → Int32} (hp : PlK hi k st P) (hi' : i < 16) (hw : w < 3) (hQ : Q (some (.int (P (i * 3 + w)))) (HP hi hl f dr t)) : Ct G (0, 0) d 52 [.ref (16 + 5 * k), .int (nI i), .int (nI w)] (HP hi hl f dr t) Q := by
  obtain ⟨p1, p2, p3, -⟩ := Pk_s hp.1 hi hl f dr t
  refine c_part p1 p2 p3 hi' hw ?_
  rw [← hp.2.2.2] at hQ
  exact hQ
theorem c_step {x i w : Int32} {pc' : Nat} (hpc : hi 0 7 = nI pc') (hpc4 : pc' ≤ 4) (hst : ∀ k, k < pc' → ∃ st P, PlK hi k st P)
    (h0 : ¬ (inB x (hi 0 7) = true ∧ (∀ k, x = nI k → inB i (hi (16 + 5 * k) 1) = true) ∧ inB w 3 = true) → Q (some (.int (-1000000))) (HP hi hl f dr t))
    (h1 : ∀ k j v, k < pc' → x = nI k → i = nI j → w = nI v → v < 3 → inB i (hi (16 + 5 * k) 1) = true → Q (some (.int (hi (17 + 5 * k) (j * 3 + v)))) (HP hi hl f dr t)) : Ct G (0, 0) (d + 1) 126 [.ref 0, .int x, .int i, .int w] (HP hi hl f dr t) Q := by
  refine Ct_of (ls := [_, _, _, _]) m_126.1.2.2.1 (Nat.le_of_ble_eq_true rfl) rfl ?_
  refine wq_aload_n q126_0 rfl ?_
  refine wq_iload_n q126_1 rfl ?_
  refine cV (As := [_]) q126_2 m_129 rfl rfl rfl ⟨by decide, rfl⟩ rfl (c_isPlan ?_)
  refine wq_if_eq q126_5 (fun c5 => ?_) (fun c5 => ?_)
  · have c := i01 c5
    refine wq_ldc q126_34 ?_
    refine rI q126_36 rfl ?_
    exact h0 (fun z => by rw [c] at z; cases z.1)
  · have c := i10 c5
    rw [hpc] at c
    obtain ⟨k, hk, rfl⟩ := inB_N (m := pc') (by omega) c
    obtain ⟨st, P, hp⟩ := hst k hk
    obtain ⟨p1, p2, p3, p4⟩ := Pk_s hp.1 hi hl f dr t
    refine wq_iload_n q126_8 rfl ?_
    refine wq_if_lt q126_9 (fun c9 => ?_) (fun c9 => ?_)
    · refine wq_ldc q126_34 ?_
      refine rI q126_36 rfl ?_
      exact h0 (fun z => by have := z.2.1 k rfl; rw [inB_f1 c9] at this; cases this)
    · refine wq_iload_n q126_12 rfl ?_
      refine wq_aload_n q126_13 rfl ?_
      refine wq_getR q126_14 (by first | exact p1 | exact p4 | rfl) rfl (by first | exact p1 | exact p4 | rfl) ?_
      refine wq_iload_n q126_17 rfl ?_
      refine aA q126_18 (by first | exact p1 | exact p4 | rfl) (by omega) (rfl) (by show k < 5; omega) (by first | decide | omega) (by first | exact p1 | exact p4 | rfl) ?_
      refine wq_getI q126_19 (by first | exact p1 | exact p4 | rfl) rfl ?_
      refine wq_icmp_ge q126_22 (fun c22 => ?_) (fun c22 => ?_)
      · refine wq_ldc q126_34 ?_
        refine rI q126_36 rfl ?_
        exact h0 (fun z => by have := z.2.1 k rfl; rw [inB_f2 (show hi (16 + 5 * k) 1 ≤ i from c22)] at this; cases this)
      · have ci : inB i (hi (16 + 5 * k) 1) = true := inB_t c9 c22
        refine wq_iload_n q126_25 rfl ?_
        refine wq_if_lt q126_26 (fun c26 => ?_) (fun c26 => ?_)
        · refine wq_ldc q126_34 ?_
          refine rI q126_36 rfl ?_
          exact h0 (fun z => by have := z.2.2; rw [inB_f1 c26] at this; cases this)
        · refine wq_iload_n q126_29 rfl ?_
          refine wq_iconst q126_30 ?_
          refine wq_icmp_lt q126_31 (fun c31 => ?_) (fun c31 => ?_)
          · have ci' := ci
            rw [hp.2.2.1] at ci'
            obtain ⟨j, hj, rfl⟩ := inB_N (m := st) (by have := hp.2.1; omega) ci'
            obtain ⟨v, hv, rfl⟩ := inB_N (m := 3) (by decide) (inB_t c26 (Int32.not_le.mpr c31))
            refine wq_aload_n q126_37 rfl ?_
            refine wq_getR q126_38 (by first | exact p1 | exact p4 | rfl) rfl (by first | exact p1 | exact p4 | rfl) ?_
            refine wq_iload_n q126_41 rfl ?_
            refine aA q126_42 (by first | exact p1 | exact p4 | rfl) (by omega) (rfl) (by show k < 5; omega) (by first | decide | omega) (by first | exact p1 | exact p4 | rfl) ?_
            refine wq_iload_n q126_43 rfl ?_
            refine wq_iload_n q126_44 rfl ?_
            refine cV (As := [_, _]) q126_45 m_52 rfl rfl (by first | exact p1 | exact p4 | rfl) ⟨by decide, rfl⟩ rfl (c_partP hp (by have := hp.2.1; omega) hv ?_)
            refine rI q126_48 rfl ?_
            have := h1 k j v hk rfl rfl rfl hv ci
            rw [hp.2.2.2] at this
            exact this
          · refine wq_ldc q126_34 ?_
            refine rI q126_36 rfl ?_
            exact h0 (fun z => by have := z.2.2; rw [inB_f2 (Int32.not_lt.mp c31)] at this; cases this)
/-- a plan is run over a row -/
def rnR (hi : Nat → Nat → Int32) (f : Nat) (lw : Option Nat) (sz n ev wi : Nat) (P : Nat → Int32) : Nat → Nat → (Nat → Int32) → Nat × (Nat → Int32)
  | 0, i, row => (i, row)
  | m + 1, i, row => if canB hi f row n (P (i * 3 + 0)) (P (i * 3 + 1)) (P (i * 3 + 2)) = true then rnR hi f lw sz n ev wi P m (i + 1) (chg hi f lw sz n ev (sOf row) wi row (P (i * 3 + 0)) (P (i * 3 + 1)) (P (i * 3 + 2))) else (i, row)
theorem c_ranApart {ev wi k st i : Nat} {P : Nat → Int32} (hk : CK hi f lw sz n ev wi) (hs41 : Sit (hi 41) n) (hp : PlK hi k st P) (hi' : i < 16)
    (h0 : canB hi f (hi 41) n (P (i * 3 + 0)) (P (i * 3 + 1)) (P (i * 3 + 2)) = false → Q (some (.int 0)) (HP hi hl f dr t))
    (h1 : canB hi f (hi 41) n (P (i * 3 + 0)) (P (i * 3 + 1)) (P (i * 3 + 2)) = true → ∀ hi2, Same (52 :: 41 :: scr0) hi hi2 → hi2 41 = chg hi f lw sz n ev (sOf (hi 41)) wi (hi 41) (P (i * 3 + 0)) (P (i * 3 + 1)) (P (i * 3 + 2)) → Q (some (.int 1)) (HP hi2 hl f dr t)) :
    Ct G (0, 0) (d + 7) 130 [.ref 0, .ref (16 + 5 * k), .int (nI i)] (HP hi hl f dr t) Q := by
  obtain ⟨hf, hw, hlw, hfk, hsit⟩ := hk
  have hs2 : Sok 40 41 := Or.inr (Or.inl ⟨rfl, rfl⟩)
  obtain ⟨p1, p2, p3, p4⟩ := Pk_s hp.1 hi hl f dr t
  refine Ct_of (ls := [_, _, _, _]) m_130.1.2.2.1 (Nat.le_of_ble_eq_true rfl) rfl ?_
  refine wq_aload_n q130_0 rfl ?_
  refine wq_iload_n q130_1 rfl ?_
  refine wq_iconst q130_2 ?_
  refine cV (As := [_, _]) q130_3 m_52 rfl rfl (by first | exact p1 | rfl) ⟨by decide, rfl⟩ rfl (c_partP (w := 0) hp hi' (by omega) ?_)
  refine wq_istore_n (ls' := [_, _, _, _]) q130_6 rfl ?_
  refine wq_aload_n q130_7 rfl ?_
  refine wq_aload_n q130_8 rfl ?_
  refine wq_getR q130_9 (by first | exact p1 | rfl) rfl (by first | exact p1 | rfl) ?_
  refine wq_iload_n q130_12 rfl ?_
  refine wq_aload_n q130_13 rfl ?_
  refine wq_iload_n q130_14 rfl ?_
  refine wq_iconst q130_15 ?_
  refine cV (As := [_, _]) q130_16 m_52 rfl rfl (by first | exact p1 | rfl) ⟨by decide, rfl⟩ rfl (c_partP (w := 1) hp hi' (by omega) ?_)
  refine wq_aload_n q130_19 rfl ?_
  refine wq_iload_n q130_20 rfl ?_
  refine wq_iconst q130_21 ?_
  refine cV (As := [_, _]) q130_22 m_52 rfl rfl (by first | exact p1 | rfl) ⟨by decide, rfl⟩ rfl (c_partP (w := 2) hp hi' (by omega) ?_)
  refine cV (As := [_, _, _, _]) q130_25 m_121 rfl rfl (by first | exact p1 | rfl) ⟨by decide, rfl⟩ rfl (c_canBe hf hs2 hfk.1 hfk.2.2.2.2.1 ?_)
  refine wq_if_ne q130_28 (fun c28 => ?_) (fun c28 => ?_)
  · have c := i10 c28
    refine wq_aload_n q130_33 rfl ?_
    refine wq_aload_n q130_34 rfl ?_
    refine wq_getR q130_35 (by first | exact p1 | rfl) rfl (by first | exact p1 | rfl) ?_
    refine wq_iload_n q130_38 rfl ?_
    refine wq_aload_n q130_39 rfl ?_
    refine wq_iload_n q130_40 rfl ?_
    refine wq_iconst q130_41 ?_
    refine cV (As := [_, _]) q130_42 m_52 rfl rfl (by first | exact p1 | rfl) ⟨by decide, rfl⟩ rfl (c_partP (w := 1) hp hi' (by omega) ?_)
    refine wq_aload_n q130_45 rfl ?_
    refine wq_iload_n q130_46 rfl ?_
    refine wq_iconst q130_47 ?_
    refine cV (As := [_, _]) q130_48 m_52 rfl rfl (by first | exact p1 | rfl) ⟨by decide, rfl⟩ rfl (c_partP (w := 2) hp hi' (by omega) ?_)
    refine cV (As := [_, _, _, _]) q130_51 m_122 rfl rfl (by first | exact p1 | rfl) ⟨by decide, rfl⟩ rfl (c_change (s := sOf (hi 41)) hf hs2 hw hlw hfk hs41.si (fun hi2 g1 g2 => ?_))
    refine wq_iconst q130_54 ?_
    refine rI q130_55 rfl ?_
    exact h1 c hi2 g1 g2
  · have c := i01 c28
    refine wq_iconst q130_31 ?_
    refine rI q130_32 rfl ?_
    exact h0 c
theorem c_run_loop {ev wi k st dy0 : Nat} {w : Int32} {P : Nat → Int32} (hk : CK hi f lw sz n ev wi) (hp : PlK hi k st P)
    (K : ∀ (x : Nat × (Nat → Int32)) (hi2 : Nat → Nat → Int32), Same scr1 hi hi2 → hi2 41 = x.2 → Sit x.2 n → x.1 ≤ st → x = rnR hi f lw sz n ev wi P st 0 (hi 39) → wq G (0, 0) (d + 8) 127 73 [some (.ref 0), some (.int (nI k)), some (.int w), some (.int (nI x.1))] [] (0, 0) (HP hi2 hl f dr t) Q) :
    ∀ (m i : Nat) (row : Nat → Int32) (hi' : Nat → Nat → Int32) (dy : Nat), i + m = st → Same scr1 hi hi' → hi' 41 = row → Sit row n → row 32 = nI dy → dy ≤ 9999 → rnR hi f lw sz n ev wi P st 0 (hi 39) = rnR hi f lw sz n ev wi P m i row →
    wq G (0, 0) (d + 8) 127 40 [some (.ref 0), some (.int (nI k)), some (.int w), some (.int (nI i))] [] (0, 0) (HP hi' hl f dr t) Q := by
  have hk5 := hp.1
  have hst := hp.2.1
  intro m
  induction m with
  | zero =>
    intro i row hi' dy hm hS h41 hsr hd hdy heq
    have hp2 := hp.moved hS (by decide)
    obtain ⟨p1, p2, p3, p4⟩ := Pk_s hp.1 hi' hl f dr t
    have es : hI (HP hi' hl f dr t) (16 + 5 * k) 1 = nI st := hp2.2.2.1
    refine wq_iload_n q127_40 rfl ?_
    refine wq_aload_n q127_41 rfl ?_
    refine wq_getR q127_42 (by first | exact p1 | exact p4 | rfl) rfl (by first | exact p1 | exact p4 | rfl) ?_
    refine wq_iload_n q127_45 rfl ?_
    refine aA q127_46 (by first | exact p1 | exact p4 | rfl) (by omega) (rfl) (by show k < 5; omega) (by first | decide | omega) (by first | exact p1 | exact p4 | rfl) ?_
    refine wq_getI q127_47 (by first | exact p1 | exact p4 | rfl) rfl ?_
    refine wq_icmp_ge q127_50 (fun c50 => ?_) (fun c50 => ?_)
    · exact K (i, row) hi' hS h41 hsr (by show i ≤ st; omega) heq.symm
    · rw [es, nI_leI (by omega) (by omega)] at c50
      omega
  | succ m ih =>
    intro i row hi' dy hm hS h41 hsr hd hdy heq
    have hp2 := hp.moved hS (by decide)
    have hk2 := hk.moved hS (by decide)
    have hfl := hk.fl hS (by decide)
    obtain ⟨p1, p2, p3, p4⟩ := Pk_s hp.1 hi' hl f dr t
    have es : hI (HP hi' hl f dr t) (16 + 5 * k) 1 = nI st := hp2.2.2.1
    rw [rnR] at heq
    refine wq_iload_n q127_40 rfl ?_
    refine wq_aload_n q127_41 rfl ?_
    refine wq_getR q127_42 (by first | exact p1 | exact p4 | rfl) rfl (by first | exact p1 | exact p4 | rfl) ?_
    refine wq_iload_n q127_45 rfl ?_
    refine aA q127_46 (by first | exact p1 | exact p4 | rfl) (by omega) (rfl) (by show k < 5; omega) (by first | decide | omega) (by first | exact p1 | exact p4 | rfl) ?_
    refine wq_getI q127_47 (by first | exact p1 | exact p4 | rfl) rfl ?_
    refine wq_icmp_ge q127_50 (fun c50 => ?_) (fun c50 => ?_)
    · rw [es, nI_leI (by omega) (by omega)] at c50
      omega
    · refine wq_aload_n q127_53 rfl ?_
      refine wq_aload_n q127_54 rfl ?_
      refine wq_getR q127_55 (by first | exact p1 | exact p4 | rfl) rfl (by first | exact p1 | exact p4 | rfl) ?_
      refine wq_iload_n q127_58 rfl ?_
      refine aA q127_59 (by first | exact p1 | exact p4 | rfl) (by omega) (rfl) (by show k < 5; omega) (by first | decide | omega) (by first | exact p1 | exact p4 | rfl) ?_
      refine wq_iload_n q127_60 rfl ?_
      refine cV (As := [_, _]) q127_61 m_130 rfl rfl (by first | exact p1 | exact p4 | rfl) ⟨by decide, rfl⟩ rfl (c_ranApart hk2 (by rw [h41]; exact hsr) hp2 (by omega) (fun hb => ?_) (fun hb hi2 g1 g2 => ?_))
      · rw [h41, canB_congr hfl] at hb
        rw [if_neg (by rw [hb]; decide)] at heq
        refine wq_if_eq q127_64 (fun c64 => ?_) (fun c64 => ?_)
        · exact K (i, row) hi' hS h41 hsr (by show i ≤ st; omega) heq.symm
        · exact absurd rfl c64
      · rw [h41, canB_congr hfl] at hb
        rw [h41, chg_congr hfl] at g2
        rw [if_pos hb] at heq
        obtain ⟨o1, dy', o2, o3⟩ := chg_ok (lw := lw) (sz := sz) hk.2.2.2.1 hsr hd hdy hb
        refine wq_if_eq q127_64 (fun c64 => ?_) (fun c64 => ?_)
        · exact absurd c64 (by decide)
        · refine wq_iinc (ls' := [_, _, _, _]) q127_67 rfl rfl ?_
          refine wq_goto q127_70 ?_
          rw [nI_1]
          exact ih (i + 1) _ hi2 dy' (by omega) (hS.tr g1) g2 o1 o3 o2 heq
theorem c_run {ev wi dy pc' : Nat} {x w : Int32} (hk : CK hi f lw sz n ev wi) (hpc : hi 0 7 = nI pc') (hpc4 : pc' ≤ 4) (hd : hi 39 32 = nI dy) (hdy : dy ≤ 9999) (hst : ∀ k, k < pc' → ∃ st P, PlK hi k st P)
    (h0 : ¬ (inB x (hi 0 7) = true ∧ 0 ≤ w ∧ w ≤ 1) → Q (some (.int (-1000000))) (HP hi hl f dr t))
    (h1 : ∀ k st P x' hi2, k < pc' → x = nI k → PlK hi k st P → 0 ≤ w → w ≤ 1 → Same scr1 hi hi2 → x' = rnR hi f lw sz n ev wi P st 0 (hi 39) → x'.1 ≤ st → Sit x'.2 n → Q (some (.int (if w = 1 then x'.2 (7 + sOf x'.2 wi) else if x'.1 = st then -1 else nI x'.1))) (HP hi2 hl f dr t)) : Ct G (0, 0) (d + 8) 127 [.ref 0, .int x, .int w] (HP hi hl f dr t) Q := by
  have hs : Sok 38 39 := Or.inl ⟨rfl, rfl⟩
  have hs2 : Sok 40 41 := Or.inr (Or.inl ⟨rfl, rfl⟩)
  have hc := hk.2.2.2.1.2.2.2.2.1
  have hn := hk.2.2.2.1.1
  have hn1 := hk.2.2.2.1.2.1
  have hwi := hk.2.2.2.1.2.2.2.1
  refine Ct_of (ls := [_, _, _, _]) m_127.1.2.2.1 (Nat.le_of_ble_eq_true rfl) rfl ?_
  refine wq_aload_n q127_0 rfl ?_
  refine wq_iload_n q127_1 rfl ?_
  refine cV (As := [_]) q127_2 m_129 rfl rfl rfl ⟨by decide, rfl⟩ rfl (c_isPlan ?_)
  refine wq_if_eq q127_5 (fun c5 => ?_) (fun c5 => ?_)
  · have c := i01 c5
    refine wq_ldc q127_24 ?_
    refine rI q127_26 rfl ?_
    exact h0 (fun z => by rw [c] at z; cases z.1)
  · have c := i10 c5
    refine wq_aload_n q127_8 rfl ?_
    refine cV (As := []) q127_9 m_102 rfl rfl rfl ⟨by decide, rfl⟩ rfl (c_hasFort hk.1 ?_)
    refine wq_if_eq q127_12 (fun c12 => ?_) (fun c12 => ?_)
    · have c := p01 c12
      rw [hc] at c
      exact absurd (nI_lt (a := 0) (b := n) (by omega) (by omega)) c
    · refine wq_iload_n q127_15 rfl ?_
      refine wq_if_lt q127_16 (fun c16 => ?_) (fun c16 => ?_)
      · refine wq_ldc q127_24 ?_
        refine rI q127_26 rfl ?_
        exact h0 (fun z => absurd z.2.1 (Int32.not_le.mpr c16))
      · refine wq_iload_n q127_19 rfl ?_
        refine wq_iconst q127_20 ?_
        refine wq_icmp_le q127_21 (fun c21 => ?_) (fun c21 => ?_)
        · rw [hpc] at c
          obtain ⟨k, hk', rfl⟩ := inB_N (m := pc') (by omega) c
          obtain ⟨st, P, hp⟩ := hst k hk'
          have hst16 := hp.2.1
          refine wq_aload_n q127_27 rfl ?_
          refine wq_getR q127_28 rfl rfl rfl ?_
          refine wq_aload_n q127_31 rfl ?_
          refine wq_getR q127_32 rfl rfl rfl ?_
          refine cV (As := [_]) q127_35 m_55 rfl rfl rfl ⟨by decide, rfl⟩ rfl (c_scopy2 (hs2.scn _ _ _ _ _) (hs.scn _ _ _ _ _) ?_)
          refine wq_iconst q127_38 ?_
          refine wq_istore_n (ls' := [_, _, _, _]) q127_39 rfl ?_
          rw [hpC]
          have e39 : hI (HP hi hl f dr t) 39 = hi 39 := rfl
          rw [e39]
          refine c_run_loop (dy0 := 0) hk hp (fun x' hi2 g1 g2 g3 g4 g5 => ?_) st 0 (hi 39) _ dy (by omega) (upS _ (by decide)) (upC_s _ _ _) hk.2.2.2.2 hd hdy rfl
          have hp2 := hp.moved g1 (by decide)
          have hfl := hk.fl g1 (by decide)
          obtain ⟨p1, p2, p3, p4⟩ := Pk_s hp.1 hi2 hl f dr t
          obtain ⟨f1, -⟩ := hk.1.frt hi2 hl f dr t
          have es : hI (HP hi2 hl f dr t) (16 + 5 * k) 1 = nI st := hp2.2.2.1
          have e41 : hI (HP hi2 hl f dr t) 41 = x'.2 := g2
          have h1 := h1 k st P x' hi2 hk' rfl hp (Int32.not_lt.mp c16) c21 g1 g5 g4 g3
          have ht := g3.si wi hwi
          refine wq_iload_n q127_73 rfl ?_
          refine wq_iconst q127_74 ?_
          refine wq_icmp_ne q127_75 (fun c75 => ?_) (fun c75 => ?_)
          · rw [if_neg c75] at h1
            refine wq_iload_n q127_107 rfl ?_
            refine wq_aload_n q127_108 rfl ?_
            refine wq_getR q127_109 (by first | exact p1 | exact p4 | rfl) rfl (by first | exact p1 | exact p4 | rfl) ?_
            refine wq_iload_n q127_112 rfl ?_
            refine aA q127_113 (by first | exact p1 | exact p4 | rfl) (by omega) (rfl) (by show k < 5; omega) (by first | decide | omega) (by first | exact p1 | exact p4 | rfl) ?_
            refine wq_getI q127_114 (by first | exact p1 | exact p4 | rfl) rfl ?_
            refine wq_icmp_ne q127_117 (fun c117 => ?_) (fun c117 => ?_)
            · rw [es, nI_eq (by omega) (by omega)] at c117
              rw [if_neg c117] at h1
              refine wq_iload_n q127_124 rfl ?_
              refine rI q127_125 rfl ?_
              exact h1
            · rw [es, nI_eq (by omega) (by omega)] at c117
              rw [if_pos c117] at h1
              refine wq_iconst q127_120 ?_
              refine wq_goto q127_121 ?_
              refine rI q127_125 rfl ?_
              exact h1
          · rw [if_pos c75] at h1
            have ew : hI (HP hi2 hl f dr t) (f + 1) 0 = nI wi := by show hi2 (f + 1) 0 = _; rw [hfl.2.1]; exact hk.2.2.2.1.2.2.2.2.2.2
            refine wq_aload_n q127_78 rfl ?_
            refine wq_getR q127_79 (by first | exact f1 | rfl) rfl (by first | exact f1 | rfl) ?_
            refine wq_getR q127_82 (by first | exact f1 | rfl) rfl (by first | exact f1 | rfl) ?_
            refine wq_bipush q127_85 ?_
            refine wq_aload_n q127_87 rfl ?_
            refine wq_getR q127_88 (by first | exact f1 | rfl) rfl (by first | exact f1 | rfl) ?_
            refine wq_getR q127_91 (by first | exact f1 | rfl) rfl (by first | exact f1 | rfl) ?_
            refine wq_iconst q127_94 ?_
            refine wq_aload_n q127_95 rfl ?_
            refine wq_getR q127_96 (by first | exact f1 | rfl) rfl (by first | exact f1 | rfl) ?_
            refine cV (As := []) q127_99 m_16 rfl rfl (by first | exact f1 | rfl) ⟨by decide, rfl⟩ rfl (c_window (by exact hk.1.frt hi2 hl f dr t) ?_)
            rw [ew]
            refine wq_iadd q127_102 ?_
            refine aI q127_103 rfl ((by rw [show (0 : Int32) = nI 0 from rfl, nI_add, Nat.zero_add])) (by show wi < 33; omega) (by first | decide | omega) ?_
            rw [e41, ht.1]
            refine wq_iadd q127_104 ?_
            refine aI q127_105 rfl (nI_add 7 _) (by show 7 + sOf x'.2 wi < 33; omega) (by first | decide | omega) ?_
            refine rI q127_106 rfl ?_
            rw [e41]
            exact h1
        · refine wq_ldc q127_24 ?_
          refine rI q127_26 rfl ?_
          exact h0 (fun z => c21 z.2.2)
/-- a plan is performed -/
def PfR (f : Nat) (lw : Option Nat) (sz n ev wi : Nat) (P : Nat → Int32) : Nat → Nat → (Nat → Nat → Int32) → Nat → (Nat → Nat → Int32) → Prop
  | 0, i, hi, i', hi' => i' = i ∧ hi' = hi
  | m + 1, i, hi, i', hi' => (canB hi f (hi 39) n (P (i * 3 + 0)) (P (i * 3 + 1)) (P (i * 3 + 2)) = false ∧ i' = i ∧ hi' = hi) ∨
    (canB hi f (hi 39) n (P (i * 3 + 0)) (P (i * 3 + 1)) (P (i * 3 + 2)) = true ∧ ∃ hi1 nx kp dy, AcK hi nx kp ∧ hi 39 32 = nI dy ∧ dy ≤ 9999 ∧ actQ hi f lw sz n ev (sOf (hi 39)) wi nx kp dy (P (i * 3 + 0)) (P (i * 3 + 1)) (P (i * 3 + 2)) hi1 ∧ PfR f lw sz n ev wi P m (i + 1) hi1 i' hi')
theorem c_perform_loop {ev wi k st : Nat} {x1 : Int32} {P : Nat → Int32} :
    ∀ (m i : Nat) (hi : Nat → Nat → Int32) (nx kp dy : Nat), i + m = st → OwK hi f lw sz n ev wi nx kp dy (sOf (hi 39)) → Sit (hi 39) n → PlK hi k st P → (∀ i' hi', PfR f lw sz n ev wi P m i hi i' hi' → Q (some (.int (nI i'))) (HP hi' hl f dr t)) →
    wq G (0, 0) (d + 8) 128 26 [some (.ref 0), some (.int x1), some (.ref (16 + 5 * k)), some (.int (nI i))] [] (0, 0) (HP hi hl f dr t) Q := by
  intro m
  induction m with
  | zero =>
    intro i hi nx kp dy hm hk hsit hp hQ
    have hst := hp.2.1
    obtain ⟨p1, p2, p3, p4⟩ := Pk_s hp.1 hi hl f dr t
    have es : hI (HP hi hl f dr t) (16 + 5 * k) 1 = nI st := hp.2.2.1
    refine wq_iload_n q128_26 rfl ?_
    refine wq_aload_n q128_27 rfl ?_
    refine wq_getI q128_28 (by first | exact p1 | rfl) rfl ?_
    refine wq_icmp_ge q128_31 (fun c31 => ?_) (fun c31 => ?_)
    · refine wq_iload_n q128_65 rfl ?_
      refine rI q128_66 rfl ?_
      exact hQ i hi ⟨rfl, rfl⟩
    · rw [es, nI_leI (by omega) (by omega)] at c31
      omega
  | succ m ih =>
    intro i hi nx kp dy hm hk hsit hp hQ
    have hst := hp.2.1
    obtain ⟨p1, p2, p3, p4⟩ := Pk_s hp.1 hi hl f dr t
    have es : hI (HP hi hl f dr t) (16 + 5 * k) 1 = nI st := hp.2.2.1
    refine wq_iload_n q128_26 rfl ?_
    refine wq_aload_n q128_27 rfl ?_
    refine wq_getI q128_28 (by first | exact p1 | rfl) rfl ?_
    refine wq_icmp_ge q128_31 (fun c31 => ?_) (fun c31 => ?_)
    · rw [es, nI_leI (by omega) (by omega)] at c31
      omega
    · refine wq_aload_n q128_34 rfl ?_
      refine wq_aload_n q128_35 rfl ?_
      refine wq_iload_n q128_36 rfl ?_
      refine wq_iconst q128_37 ?_
      refine cV (As := [_, _]) q128_38 m_52 rfl rfl (by first | exact p1 | rfl) ⟨by decide, rfl⟩ rfl (c_partP (w := 0) hp (by omega) (by omega) ?_)
      refine wq_aload_n q128_41 rfl ?_
      refine wq_iload_n q128_42 rfl ?_
      refine wq_iconst q128_43 ?_
      refine cV (As := [_, _]) q128_44 m_52 rfl rfl (by first | exact p1 | rfl) ⟨by decide, rfl⟩ rfl (c_partP (w := 1) hp (by omega) (by omega) ?_)
      refine wq_aload_n q128_47 rfl ?_
      refine wq_iload_n q128_48 rfl ?_
      refine wq_iconst q128_49 ?_
      refine cV (As := [_, _]) q128_50 m_52 rfl rfl (by first | exact p1 | rfl) ⟨by decide, rfl⟩ rfl (c_partP (w := 2) hp (by omega) (by omega) ?_)
      refine cV (As := [_, _, _]) q128_53 m_120 rfl rfl (by first | exact p1 | rfl) ⟨by decide, rfl⟩ rfl (c_acted hk (fun hb => ?_) (fun hb hi' hpa => ?_))
      · refine wq_if_eq q128_56 (fun c56 => ?_) (fun c56 => ?_)
        · refine wq_iload_n q128_65 rfl ?_
          refine rI q128_66 rfl ?_
          exact hQ i hi (Or.inl ⟨hb, rfl, rfl⟩)
        · exact absurd rfl c56
      · obtain ⟨o1, dy', o2, o3⟩ := chg_ok (lw := lw) (sz := sz) hk.2.2.2.1 hsit hk.2.2.2.2.2.2.1 hk.2.2.2.2.2.2.2 hb
        have e39 : hi' 39 = _ := hpa.1
        refine wq_if_eq q128_56 (fun c56 => ?_) (fun c56 => ?_)
        · exact absurd c56 (by decide)
        · refine wq_iinc (ls' := [_, _, _, _]) q128_59 rfl rfl ?_
          refine wq_goto q128_62 ?_
          rw [nI_1]
          refine ih (i + 1) hi' _ _ dy' (by omega) (hk.act hpa ?_ o3 o2) (by rw [e39]; exact o1) (hp.moved hpa.2.2.2.2 (by decide)) (fun i' hi2 h2 => hQ i' hi2 (Or.inr ⟨hb, hi', nx, kp, dy, hk.2.2.2.2.2.1, hk.2.2.2.2.2.2.1, hk.2.2.2.2.2.2.2, hpa, h2⟩))
          rw [e39]
          exact o1.si
theorem c_perform {ev wi nx kp dy pc' : Nat} {x : Int32} (hk : OwK hi f lw sz n ev wi nx kp dy (sOf (hi 39))) (hsit : Sit (hi 39) n) (hpc : hi 0 7 = nI pc') (hpc4 : pc' ≤ 4) (hst : ∀ k, k < pc' → ∃ st P, PlK hi k st P)
    (h0 : inB x (hi 0 7) = false → Q (some (.int (-1))) (HP hi hl f dr t))
    (h1 : ∀ k st P i' hi', k < pc' → x = nI k → PlK hi k st P → PfR f lw sz n ev wi P st 0 hi i' hi' → Q (some (.int (nI i'))) (HP hi' hl f dr t)) : Ct G (0, 0) (d + 8) 128 [.ref 0, .int x] (HP hi hl f dr t) Q := by
  have hc := hk.2.2.2.1.2.2.2.2.1
  have hn := hk.2.2.2.1.1
  have hn1 := hk.2.2.2.1.2.1
  refine Ct_of (ls := [_, _, _, _]) m_128.1.2.2.1 (Nat.le_of_ble_eq_true rfl) rfl ?_
  refine wq_aload_n q128_0 rfl ?_
  refine wq_iload_n q128_1 rfl ?_
  refine cV (As := [_]) q128_2 m_129 rfl rfl rfl ⟨by decide, rfl⟩ rfl (c_isPlan ?_)
  refine wq_if_eq q128_5 (fun c5 => ?_) (fun c5 => ?_)
  · have c := i01 c5
    refine wq_iconst q128_15 ?_
    refine rI q128_16 rfl ?_
    exact h0 c
  · have c := i10 c5
    refine wq_aload_n q128_8 rfl ?_
    refine cV (As := []) q128_9 m_102 rfl rfl rfl ⟨by decide, rfl⟩ rfl (c_hasFort hk.1 ?_)
    refine wq_if_ne q128_12 (fun c12 => ?_) (fun c12 => ?_)
    · rw [hpc] at c
      obtain ⟨k, hk', rfl⟩ := inB_N (m := pc') (by omega) c
      obtain ⟨st, P, hp⟩ := hst k hk'
      obtain ⟨p1, p2, p3, p4⟩ := Pk_s hp.1 hi hl f dr t
      refine wq_aload_n q128_17 rfl ?_
      refine wq_getR q128_18 (by first | exact p1 | exact p4 | rfl) rfl (by first | exact p1 | exact p4 | rfl) ?_
      refine wq_iload_n q128_21 rfl ?_
      refine aA q128_22 (by first | exact p1 | exact p4 | rfl) (by omega) (rfl) (by show k < 5; omega) (by first | decide | omega) (by first | exact p1 | exact p4 | rfl) ?_
      refine wq_astore_n (ls' := [_, _, _, _]) q128_23 rfl ?_
      refine wq_iconst q128_24 ?_
      refine wq_istore_n (ls' := [_, _, _, _]) q128_25 rfl ?_
      exact c_perform_loop st 0 hi nx kp dy (by omega) hk hsit hp (fun i' hi' h => h1 k st P i' hi' hk' rfl hp h)
    · have c := p01 c12
      rw [hc] at c
      exact absurd (nI_lt (a := 0) (b := n) (by omega) (by omega)) c
end PLANS
