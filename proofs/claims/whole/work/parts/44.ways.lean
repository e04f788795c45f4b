/-! THE CLASS: walls, escapes, trust, wearing -/
/-- all that a question needs, where there is a fort -/
def CK (hi : Nat → Nat → Int32) (f : Nat) (lw : Option Nat) (sz n ev wi : Nat) : Prop := Fok f ∧ Lawk hi lw sz ∧ LwN hi lw ∧ FoK hi f n ev wi ∧ Sit (hi 39) n
def waD (st : Nat → Int32) : Nat → Int32
  | 0 => -1
  | c + 1 => if st c ≤ 0 then nI (c + 1) else waD st c
def waU (st : Nat → Int32) : Nat → Nat → Int32
  | 0, _ => -1
  | m + 1, c => if st c ≤ 0 then nI c - 1 else waU st m (c + 1)
section WAYS
variable {G : ph_G} {d a r n f dr t sz : Nat} {hi : Nat → Nat → Int32} {hl : Nat → Nat → Int64} {Q : Option Value → ph_H → Prop} {lw : Option Nat}
theorem CK.moved {S : List Nat} {hi' : Nat → Nat → Int32} {ev wi : Nat} (h : CK hi f lw sz n ev wi) (hs : Same S hi hi') (hS : ∀ b, b ∈ S → b ∈ (52 :: 41 :: scr0)) : CK hi' f lw sz n ev wi := by
  have hm : ∀ b, b ∈ (52 :: 41 :: scr0) → b ∈ (45 :: 48 :: 49 :: 52 :: 39 :: 41 :: 43 :: scr0) := by decide
  have hfl := FLs_of h.1 h.2.1 hs (fun b hb => hm b (hS b hb))
  have h0 : (0 : Nat) ∉ (52 :: 41 :: scr0) := by decide
  have h39 : (39 : Nat) ∉ (52 :: 41 :: scr0) := by decide
  exact ⟨h.1, h.2.1.moved hfl, h.2.2.1.moved (hs 0 (fun z => h0 (hS _ z))), h.2.2.2.1.moved hfl, by rw [hs 39 (fun z => h39 (hS _ z))]; exact h.2.2.2.2⟩
theorem c_wall_down {S : Nat → Int32} {x1 x2 : Int32} (hf : Fok f) (hn : n ≤ 7) (hc : hi f 3 = nI n) (hS : ∀ c, c < n → hi 51 c = S c) : ∀ (k : Nat), k ≤ n → Q (some (.int (waD S k))) (HP hi hl f dr t) →
    wq G (0, 0) (d + 1) 132 67 [some (.ref 0), some (.int x1), some (.int x2), some (.int (-1)), some (.int (nI k - 1))] [] (0, 0) (HP hi hl f dr t) Q := by
  obtain ⟨f1, -⟩ := hf.frt hi hl f dr t
  intro k
  induction k with
  | zero =>
    intro hk hQ
    refine wq_iload q132_67 rfl ?_
    refine wq_if_lt q132_69 (fun c69 => ?_) (fun c69 => ?_)
    · refine wq_iconst q132_111 ?_
      refine rI q132_112 rfl ?_
      exact hQ
    · exact absurd (by decide) c69
  | succ k ih =>
    intro hk hQ
    have e : nI (k + 1) - 1 = nI k := nI_pred k
    have eS : hI (HP hi hl f dr t) 51 k = S k := hS k (by omega)
    rw [waD] at hQ
    rw [e]
    refine wq_iload q132_67 rfl ?_
    refine wq_if_lt q132_69 (fun c69 => ?_) (fun c69 => ?_)
    · exact absurd c69 (nI_pos (by omega))
    · refine wq_iload q132_72 rfl ?_
      refine wq_aload_n q132_74 rfl ?_
      refine wq_getR q132_75 (by first | exact f1 | rfl) rfl (by first | exact f1 | rfl) ?_
      refine wq_getI q132_78 (by first | exact f1 | rfl) rfl ?_
      refine wq_icmp_ge q132_81 (fun c81 => ?_) (fun c81 => ?_)
      · have c : hi f 3 ≤ nI k := c81
        rw [hc] at c
        exact absurd c (nI_ge (by omega) (by omega))
      · refine wq_aload_n q132_84 rfl ?_
        refine wq_getR q132_85 rfl rfl rfl ?_
        refine wq_getR q132_88 rfl rfl rfl ?_
        refine wq_iload q132_91 rfl ?_
        refine aI q132_93 rfl (rfl) (by show k < 7; omega) (by first | decide | omega) ?_
        refine wq_if_gt q132_94 (fun c94 => ?_) (fun c94 => ?_)
        · rw [eS] at c94
          rw [if_neg (Int32.not_le.mpr c94)] at hQ
          refine wq_iload q132_102 rfl ?_
          refine wq_iload_n q132_104 rfl ?_
          refine wq_iadd q132_105 ?_
          refine wq_istore (ls' := [_, _, _, _, _]) q132_106 rfl ?_
          refine wq_goto q132_108 ?_
          rw [i32_m1]
          exact ih (by omega) hQ
        · rw [eS] at c94
          rw [if_pos (Int32.not_lt.mp c94)] at hQ
          refine wq_iload q132_97 rfl ?_
          refine wq_iload_n q132_99 rfl ?_
          refine wq_isub q132_100 ?_
          refine rI q132_101 rfl ?_
          rw [show nI k - -1 = nI (k + 1) by rw [← nI_1, Int32.sub_eq_add_neg]; rfl]
          exact hQ
theorem c_wall_up {S : Nat → Int32} {x1 x2 : Int32} (hf : Fok f) (hn : n ≤ 7) (hc : hi f 3 = nI n) (hS : ∀ c, c < n → hi 51 c = S c) : ∀ (m c : Nat), c + m = n → Q (some (.int (waU S m c))) (HP hi hl f dr t) →
    wq G (0, 0) (d + 1) 132 67 [some (.ref 0), some (.int x1), some (.int x2), some (.int 1), some (.int (nI c))] [] (0, 0) (HP hi hl f dr t) Q := by
  obtain ⟨f1, -⟩ := hf.frt hi hl f dr t
  intro m
  induction m with
  | zero =>
    intro c hm hQ
    refine wq_iload q132_67 rfl ?_
    refine wq_if_lt q132_69 (fun c69 => ?_) (fun c69 => ?_)
    · exact absurd c69 (nI_pos (by omega))
    · refine wq_iload q132_72 rfl ?_
      refine wq_aload_n q132_74 rfl ?_
      refine wq_getR q132_75 (by first | exact f1 | rfl) rfl (by first | exact f1 | rfl) ?_
      refine wq_getI q132_78 (by first | exact f1 | rfl) rfl ?_
      refine wq_icmp_ge q132_81 (fun c81 => ?_) (fun c81 => ?_)
      · refine wq_iconst q132_111 ?_
        refine rI q132_112 rfl ?_
        exact hQ
      · have c' : ¬ hi f 3 ≤ nI c := c81
        rw [hc] at c'
        exact absurd (nI_le (by omega) (by omega)) c'
  | succ m ih =>
    intro c hm hQ
    have eS : hI (HP hi hl f dr t) 51 c = S c := hS c (by omega)
    rw [waU] at hQ
    refine wq_iload q132_67 rfl ?_
    refine wq_if_lt q132_69 (fun c69 => ?_) (fun c69 => ?_)
    · exact absurd c69 (nI_pos (by omega))
    · refine wq_iload q132_72 rfl ?_
      refine wq_aload_n q132_74 rfl ?_
      refine wq_getR q132_75 (by first | exact f1 | rfl) rfl (by first | exact f1 | rfl) ?_
      refine wq_getI q132_78 (by first | exact f1 | rfl) rfl ?_
      refine wq_icmp_ge q132_81 (fun c81 => ?_) (fun c81 => ?_)
      · have c' : hi f 3 ≤ nI c := c81
        rw [hc] at c'
        exact absurd c' (nI_ge (by omega) (by omega))
      · refine wq_aload_n q132_84 rfl ?_
        refine wq_getR q132_85 rfl rfl rfl ?_
        refine wq_getR q132_88 rfl rfl rfl ?_
        refine wq_iload q132_91 rfl ?_
        refine aI q132_93 rfl (rfl) (by show c < 7; omega) (by first | decide | omega) ?_
        refine wq_if_gt q132_94 (fun c94 => ?_) (fun c94 => ?_)
        · rw [eS] at c94
          rw [if_neg (Int32.not_le.mpr c94)] at hQ
          refine wq_iload q132_102 rfl ?_
          refine wq_iload_n q132_104 rfl ?_
          refine wq_iadd q132_105 ?_
          refine wq_istore (ls' := [_, _, _, _, _]) q132_106 rfl ?_
          refine wq_goto q132_108 ?_
          rw [nI_1]
          exact ih (c + 1) (by omega) hQ
        · rw [eS] at c94
          rw [if_pos (Int32.not_lt.mp c94)] at hQ
          refine wq_iload q132_97 rfl ?_
          refine wq_iload_n q132_99 rfl ?_
          refine wq_isub q132_100 ?_
          refine rI q132_101 rfl ?_
          exact hQ
theorem c_wall {ev wi : Nat} {x y : Int32} (hk : CK hi f lw sz n ev wi) (h0 : ¬ (inB x (hi f 4) = true ∧ 0 ≤ y ∧ y ≤ 1) → Q (some (.int (-1))) (HP hi hl f dr t))
    (h1 : ∀ v hi', v < ev → x = nI v → 0 ≤ y → y ≤ 1 → Same scr0 hi hi' → Q (some (.int (if y = 0 then waD (spV hi f lw sz v (hi 39) (sOf (hi 39)) wi) wi else waU (spV hi f lw sz v (hi 39) (sOf (hi 39)) wi) (n - (wi + 1)) (wi + 1)))) (HP hi' hl f dr t)) : Ct G (0, 0) (d + 5) 132 [.ref 0, .int x, .int y] (HP hi hl f dr t) Q := by
  have hk' := hk
  obtain ⟨hf, hw, hlw, ⟨hn, hn1, hev, hwi, hc, hc4, hc0⟩, hsit⟩ := hk
  have hs : Sok 38 39 := Or.inl ⟨rfl, rfl⟩
  obtain ⟨f1, -⟩ := hf.frt hi hl f dr t
  have ew : hI (HP hi hl f dr t) (f + 1) 0 = nI wi := hc0
  refine Ct_of (ls := [_, _, _, _, _]) m_132.1.2.2.1 (Nat.le_of_ble_eq_true rfl) rfl ?_
  refine wq_aload_n q132_0 rfl ?_
  refine wq_iload_n q132_1 rfl ?_
  refine cV (As := [_]) q132_2 m_105 rfl rfl rfl ⟨by decide, rfl⟩ rfl (c_isEvent hf ?_)
  refine wq_if_eq q132_5 (fun c5 => ?_) (fun c5 => ?_)
  · have c := i01 c5
    refine wq_iconst q132_17 ?_
    refine rI q132_18 rfl ?_
    exact h0 (fun z => by rw [z.1] at c; cases c)
  · have c := i10 c5
    refine wq_iload_n q132_8 rfl ?_
    refine wq_if_lt q132_9 (fun c9 => ?_) (fun c9 => ?_)
    · refine wq_iconst q132_17 ?_
      refine rI q132_18 rfl ?_
      exact h0 (fun z => absurd z.2.1 (Int32.not_le.mpr c9))
    · refine wq_iload_n q132_12 rfl ?_
      refine wq_iconst q132_13 ?_
      refine wq_icmp_le q132_14 (fun c14 => ?_) (fun c14 => ?_)
      · rw [hc4] at c
        obtain ⟨v, hv, rfl⟩ := inB_N (m := ev) (by omega) c
        have after : ∀ hi2 : Nat → Nat → Int32, Same scr0 hi hi2 → (∀ c, c < n → hi2 51 c = spV hi f lw sz v (hi 39) (sOf (hi 39)) wi c) → wq G (0, 0) (d + 5) 132 46 [some (.ref 0), some (.int (nI v)), some (.int y), none, none] [] (0, 0) (HP hi2 hl f dr t) Q := by
          intro hi2 g1 g2
          have hk2 := hk'.moved g1 (by decide)
          obtain ⟨f1, -⟩ := hf.frt hi2 hl f dr t
          have h1 := h1 v hi2 hv rfl (Int32.not_lt.mp c9) c14 g1
          have ew2 : hI (HP hi2 hl f dr t) (f + 1) 0 = nI wi := hk2.2.2.2.1.2.2.2.2.2.2
          refine wq_iload_n q132_46 rfl ?_
          refine wq_if_ne q132_47 (fun c47 => ?_) (fun c47 => ?_)
          · rw [if_neg c47] at h1
            refine wq_iconst q132_54 ?_
            refine wq_istore_n (ls' := [_, _, _, _, _]) q132_55 rfl ?_
            refine wq_aload_n q132_56 rfl ?_
            refine wq_getR q132_57 (by first | exact f1 | rfl) rfl (by first | exact f1 | rfl) ?_
            refine cV (As := []) q132_60 m_16 rfl rfl (by first | exact f1 | rfl) ⟨by decide, rfl⟩ rfl (c_window (by exact hf.frt hi2 hl f dr t) ?_)
            rw [ew2]
            refine wq_iload_n q132_63 rfl ?_
            refine wq_iadd q132_64 ?_
            refine wq_istore (ls' := [_, _, _, _, _]) q132_65 rfl ?_
            rw [nI_1]
            exact c_wall_up hf hn hk2.2.2.2.1.2.2.2.2.1 g2 (n - (wi + 1)) (wi + 1) (by omega) h1
          · rw [if_pos c47] at h1
            refine wq_iconst q132_50 ?_
            refine wq_goto q132_51 ?_
            refine wq_istore_n (ls' := [_, _, _, _, _]) q132_55 rfl ?_
            refine wq_aload_n q132_56 rfl ?_
            refine wq_getR q132_57 (by first | exact f1 | rfl) rfl (by first | exact f1 | rfl) ?_
            refine cV (As := []) q132_60 m_16 rfl rfl (by first | exact f1 | rfl) ⟨by decide, rfl⟩ rfl (c_window (by exact hf.frt hi2 hl f dr t) ?_)
            rw [ew2]
            refine wq_iload_n q132_63 rfl ?_
            refine wq_iadd q132_64 ?_
            refine wq_istore (ls' := [_, _, _, _, _]) q132_65 rfl ?_
            rw [i32_m1]
            exact c_wall_down hf hn hk2.2.2.2.1.2.2.2.2.1 g2 wi (by omega) h1
        cases hlw' : lw with
        | none =>
          subst hlw'
          refine wq_aload_n q132_19 rfl ?_
          refine wq_getR q132_20 (by first | exact f1 | rfl) rfl (by first | exact f1 | rfl) ?_
          refine wq_aload_n q132_23 rfl ?_
          refine wq_getR q132_24 (by first | exact f1 | rfl) rfl (by first | exact f1 | rfl) ?_
          refine wq_aload_n q132_27 rfl ?_
          refine wq_getR q132_28 (by first | exact f1 | rfl) rfl (by first | exact f1 | rfl) ?_
          refine wq_aload_n q132_31 rfl ?_
          refine cV (As := []) q132_32 m_108 rfl rfl (by first | exact f1 | rfl) ⟨by decide, rfl⟩ rfl (c_lawNow hlw ?_)
          refine wq_iload_n q132_35 rfl ?_
          refine wq_aload_n q132_36 rfl ?_
          refine wq_getR q132_37 (by first | exact f1 | rfl) rfl (by first | exact f1 | rfl) ?_
          refine cV (As := []) q132_40 m_16 rfl rfl (by first | exact f1 | rfl) ⟨by decide, rfl⟩ rfl (c_window (by exact hf.frt hi hl f dr t) ?_)
          rw [ew]
          refine cV (As := [_, _, _, _, _]) q132_43 m_28 rfl rfl rfl ⟨by decide, rfl⟩ rfl (c_spread (lw := none) (s := sOf (hi 39)) hf hs hw hn (by omega) hwi hc hsit.si (fun hi2 h1 h2 => ?_))
          exact after hi2 h1 h2
        | some la =>
          subst hlw'
          refine wq_aload_n q132_19 rfl ?_
          refine wq_getR q132_20 (by first | exact f1 | rfl) rfl (by first | exact f1 | rfl) ?_
          refine wq_aload_n q132_23 rfl ?_
          refine wq_getR q132_24 (by first | exact f1 | rfl) rfl (by first | exact f1 | rfl) ?_
          refine wq_aload_n q132_27 rfl ?_
          refine wq_getR q132_28 (by first | exact f1 | rfl) rfl (by first | exact f1 | rfl) ?_
          refine wq_aload_n q132_31 rfl ?_
          refine cV (As := []) q132_32 m_108 rfl rfl (by first | exact f1 | rfl) ⟨by decide, rfl⟩ rfl (c_lawNow hlw ?_)
          refine wq_iload_n q132_35 rfl ?_
          refine wq_aload_n q132_36 rfl ?_
          refine wq_getR q132_37 (by first | exact f1 | rfl) rfl (by first | exact f1 | rfl) ?_
          refine cV (As := []) q132_40 m_16 rfl rfl (by first | exact f1 | rfl) ⟨by decide, rfl⟩ rfl (c_window (by exact hf.frt hi hl f dr t) ?_)
          rw [ew]
          refine cV (As := [_, _, _, _, _]) q132_43 m_28 rfl rfl rfl ⟨by decide, rfl⟩ rfl (c_spread (lw := (some la)) (s := sOf (hi 39)) hf hs hw hn (by omega) hwi hc hsit.si (fun hi2 h1 h2 => ?_))
          exact after hi2 h1 h2
      · refine wq_iconst q132_17 ?_
        refine rI q132_18 rfl ?_
        exact h0 (fun z => c14 z.2.2)
/-- who hears from a cell -/
def heV (hi : Nat → Nat → Int32) (f : Nat) (lw : Option Nat) (sz n v : Nat) (row : Nat → Int32) (c : Nat) : Int32 := hrR (spV hi f lw sz v row (sOf row) c) row c n 0 0
theorem heV_congr {hi' : Nat → Nat → Int32} {v : Nat} {row : Nat → Int32} (h : FLs f lw hi hi') : heV hi' f lw sz n v row = heV hi f lw sz n v row := by
  funext c
  unfold heV
  rw [spV_congr h.2.1 h.2.2.1 h.2.2.2.1 (fun a ha => (h.2.2.2.2 a ha).2)]
def escS (H row : Nat → Int32) (set : Int32) (c : Nat) (x : Int32 × Int32) : Int32 × Int32 :=
  if (set &&& ((1 <<< (row c &&& 31)) ^^^ (-1))) &&& (H c ^^^ (-1)) = 0 ∧ bc (H c &&& (set ^^^ (-1))) < x.2 then (nI c, bc (H c &&& (set ^^^ (-1)))) else x
def escR (H row : Nat → Int32) (set : Int32) : Nat → Nat → Int32 × Int32 → Int32 × Int32
  | 0, _, x => x
  | m + 1, c, x => escR H row set m (c + 1) (escS H row set c x)
theorem c_escape_loop {ev wi v : Nat} {set : Int32} (hk : CK hi f lw sz n ev wi) (hv : v < ev) : ∀ (m c : Nat) (x : Int32 × Int32) (hi' : Nat → Nat → Int32) (x6 x7 x8 : Option Value), c + m = n → Same scr0 hi hi' → (∀ hi2, Same scr0 hi hi2 → Q (some (.int (escR (heV hi f lw sz n v (hi 39)) (hi 39) set m c x).1)) (HP hi2 hl f dr t)) →
    wq G (0, 0) (d + 6) 134 36 [some (.ref 0), some (.int set), some (.int (nI v)), some (.int x.1), some (.int x.2), some (.int (nI c)), x6, x7, x8] [] (0, 0) (HP hi' hl f dr t) Q := by
  obtain ⟨hf, hw, hlw, ⟨hn, hn1, hev, hwi, hc, hc4, hc0⟩, hsit⟩ := hk
  have hk : CK hi f lw sz n ev wi := ⟨hf, hw, hlw, ⟨hn, hn1, hev, hwi, hc, hc4, hc0⟩, hsit⟩
  intro m
  induction m with
  | zero =>
    intro c x hi' x6 x7 x8 hm hS hQ
    have hk2 := hk.moved hS (by decide)
    obtain ⟨f1, -⟩ := hf.frt hi' hl f dr t
    have ec : hI (HP hi' hl f dr t) f 3 = nI n := hk2.2.2.2.1.2.2.2.2.1
    refine wq_iload q134_36 rfl ?_
    refine wq_aload_n q134_38 rfl ?_
    refine wq_getR q134_39 (by first | exact f1 | rfl) rfl (by first | exact f1 | rfl) ?_
    refine wq_getI q134_42 (by first | exact f1 | rfl) rfl ?_
    refine wq_icmp_ge q134_45 (fun c45 => ?_) (fun c45 => ?_)
    · refine wq_iload_n q134_118 rfl ?_
      refine rI q134_119 rfl ?_
      exact hQ hi' hS
    · rw [ec, nI_leI (by omega) (by omega)] at c45
      omega
  | succ m ih =>
    intro c x hi' x6 x7 x8 hm hS hQ
    have hk2 := hk.moved hS (by decide)
    obtain ⟨f1, -⟩ := hf.frt hi' hl f dr t
    have ec : hI (HP hi' hl f dr t) f 3 = nI n := hk2.2.2.2.1.2.2.2.2.1
    have hfl := FLs_of hf hw hS (by decide)
    have e39 : hi' 39 = hi 39 := hS 39 (by decide)
    rw [escR] at hQ
    refine wq_iload q134_36 rfl ?_
    refine wq_aload_n q134_38 rfl ?_
    refine wq_getR q134_39 (by first | exact f1 | rfl) rfl (by first | exact f1 | rfl) ?_
    refine wq_getI q134_42 (by first | exact f1 | rfl) rfl ?_
    refine wq_icmp_ge q134_45 (fun c45 => ?_) (fun c45 => ?_)
    · rw [ec, nI_leI (by omega) (by omega)] at c45
      omega
    · refine wq_aload_n q134_48 rfl ?_
      refine wq_iload q134_49 rfl ?_
      refine wq_iload_n q134_51 rfl ?_
      refine cV (As := [_, _]) q134_52 m_137 rfl rfl rfl ⟨by decide, rfl⟩ rfl (c_hearersFrom hf hk2.2.1 hk2.2.2.1 hk2.2.2.2.1 hk2.2.2.2.2.si (by omega) (by omega) (fun hi2 h2 => ?_))
      have eH : hrR (spV hi' f lw sz v (hi' 39) (sOf (hi' 39)) c) (hi' 39) c n 0 0 = heV hi f lw sz n v (hi 39) c := by
        rw [← heV_congr hfl, e39]
        rfl
      rw [eH]
      have e39' : hI (HP hi2 hl f dr t) 39 = hi 39 := (h2 39 (by decide)).trans e39
      refine wq_istore (ls' := [_, _, _, _, _, _, _, _, _]) q134_55 rfl ?_
      refine wq_iload_n q134_57 rfl ?_
      refine wq_iconst q134_58 ?_
      refine wq_aload_n q134_59 rfl ?_
      refine wq_getR q134_60 rfl rfl rfl ?_
      refine wq_getR q134_63 rfl rfl rfl ?_
      refine wq_iconst q134_66 ?_
      refine wq_iload q134_67 rfl ?_
      refine wq_iadd q134_69 ?_
      refine aI q134_70 rfl ((by rw [show (0 : Int32) = nI 0 from rfl, nI_add, Nat.zero_add])) (by show c < 33; omega) (by first | decide | omega) ?_
      refine wq_ishl q134_71 ?_
      refine wq_iconst q134_72 ?_
      refine wq_ixor q134_73 ?_
      refine wq_iand q134_74 ?_
      refine wq_istore (ls' := [_, _, _, _, _, _, _, _, _]) q134_75 rfl ?_
      refine wq_iload q134_77 rfl ?_
      refine wq_iload_n q134_79 rfl ?_
      refine wq_iconst q134_80 ?_
      refine wq_ixor q134_81 ?_
      refine wq_iand q134_82 ?_
      refine cS' (As := [_]) q134_83 m_295 rfl rfl rfl (c_bitCount ?_)
      refine wq_istore (ls' := [_, _, _, _, _, _, _, _, _]) q134_86 rfl ?_
      refine wq_iload q134_88 rfl ?_
      refine wq_iload q134_90 rfl ?_
      refine wq_iconst q134_92 ?_
      refine wq_ixor q134_93 ?_
      refine wq_iand q134_94 ?_
      rw [e39']
      refine wq_if_ne q134_95 (fun c95 => ?_) (fun c95 => ?_)
      · have e : escS (heV hi f lw sz n v (hi 39)) (hi 39) set c x = x := by unfold escS; rw [if_neg (fun z => c95 z.1)]
        rw [e] at hQ
        refine wq_iinc (ls' := [_, _, _, _, _, _, _, _, _]) q134_112 rfl rfl ?_
        refine wq_goto q134_115 ?_
        rw [nI_1]
        exact ih (c + 1) x hi2 _ _ _ (by omega) (hS.tr h2) hQ
      · refine wq_iload q134_98 rfl ?_
        refine wq_iload q134_100 rfl ?_
        refine wq_icmp_ge q134_102 (fun c102 => ?_) (fun c102 => ?_)
        · have e : escS (heV hi f lw sz n v (hi 39)) (hi 39) set c x = x := by unfold escS; rw [if_neg (fun z => absurd z.2 (Int32.not_lt.mpr c102))]
          rw [e] at hQ
          refine wq_iinc (ls' := [_, _, _, _, _, _, _, _, _]) q134_112 rfl rfl ?_
          refine wq_goto q134_115 ?_
          rw [nI_1]
          exact ih (c + 1) x hi2 _ _ _ (by omega) (hS.tr h2) hQ
        · have e : escS (heV hi f lw sz n v (hi 39)) (hi 39) set c x = (nI c, bc (heV hi f lw sz n v (hi 39) c &&& (set ^^^ (-1)))) := by unfold escS; rw [if_pos ⟨c95, Int32.not_le.mp c102⟩]
          rw [e] at hQ
          refine wq_iload q134_105 rfl ?_
          refine wq_istore_n (ls' := [_, _, _, _, _, _, _, _, _]) q134_107 rfl ?_
          refine wq_iload q134_108 rfl ?_
          refine wq_istore (ls' := [_, _, _, _, _, _, _, _, _]) q134_110 rfl ?_
          refine wq_iinc (ls' := [_, _, _, _, _, _, _, _, _]) q134_112 rfl rfl ?_
          refine wq_goto q134_115 ?_
          rw [nI_1]
          exact ih (c + 1) (nI c, bc (heV hi f lw sz n v (hi 39) c &&& (set ^^^ (-1)))) hi2 _ _ _ (by omega) (hS.tr h2) hQ
theorem c_escape {ev wi : Nat} {set x : Int32} (hk : CK hi f lw sz n ev wi) (h0 : ¬ (inB x (hi f 4) = true ∧ 0 ≤ set ∧ set < 1 <<< (hi f 3 &&& 31)) → Q (some (.int (-1))) (HP hi hl f dr t))
    (h1 : ∀ v hi', v < ev → x = nI v → 0 ≤ set → set < 1 <<< (hi f 3 &&& 31) → Same scr0 hi hi' → Q (some (.int (escR (heV hi f lw sz n v (hi 39)) (hi 39) set n 0 (-1, 8)).1)) (HP hi' hl f dr t)) : Ct G (0, 0) (d + 6) 134 [.ref 0, .int set, .int x] (HP hi hl f dr t) Q := by
  have hk' := hk
  obtain ⟨hf, hw, hlw, ⟨hn, hn1, hev, hwi, hc, hc4, hc0⟩, hsit⟩ := hk
  obtain ⟨f1, -⟩ := hf.frt hi hl f dr t
  refine Ct_of (ls := [_, _, _, _, _, _, _, _, _]) m_134.1.2.2.1 (Nat.le_of_ble_eq_true rfl) rfl ?_
  refine wq_aload_n q134_0 rfl ?_
  refine wq_iload_n q134_1 rfl ?_
  refine cV (As := [_]) q134_2 m_105 rfl rfl rfl ⟨by decide, rfl⟩ rfl (c_isEvent hf ?_)
  refine wq_if_eq q134_5 (fun c5 => ?_) (fun c5 => ?_)
  · have c := i01 c5
    refine wq_iconst q134_25 ?_
    refine rI q134_26 rfl ?_
    exact h0 (fun z => by rw [z.1] at c; cases c)
  · have c := i10 c5
    refine wq_iload_n q134_8 rfl ?_
    refine wq_if_lt q134_9 (fun c9 => ?_) (fun c9 => ?_)
    · refine wq_iconst q134_25 ?_
      refine rI q134_26 rfl ?_
      exact h0 (fun z => absurd z.2.1 (Int32.not_le.mpr c9))
    · refine wq_iload_n q134_12 rfl ?_
      refine wq_iconst q134_13 ?_
      refine wq_aload_n q134_14 rfl ?_
      refine wq_getR q134_15 (by first | exact f1 | rfl) rfl (by first | exact f1 | rfl) ?_
      refine wq_getI q134_18 (by first | exact f1 | rfl) rfl ?_
      refine wq_ishl q134_21 ?_
      refine wq_icmp_lt q134_22 (fun c22 => ?_) (fun c22 => ?_)
      · rw [hc4] at c
        obtain ⟨v, hv, rfl⟩ := inB_N (m := ev) (by omega) c
        refine wq_iconst q134_27 ?_
        refine wq_istore_n (ls' := [_, _, _, _, _, _, _, _, _]) q134_28 rfl ?_
        refine wq_bipush q134_29 ?_
        refine wq_istore (ls' := [_, _, _, _, _, _, _, _, _]) q134_31 rfl ?_
        refine wq_iconst q134_33 ?_
        refine wq_istore (ls' := [_, _, _, _, _, _, _, _, _]) q134_34 rfl ?_
        exact c_escape_loop hk' hv n 0 (-1, 8) hi _ _ _ (by omega) Same.rf (fun hi2 h2 => h1 v hi2 hv rfl (Int32.not_lt.mp c9) c22 h2)
      · refine wq_iconst q134_25 ?_
        refine rI q134_26 rfl ?_
        exact h0 (fun z => c22 z.2.2)
def trR (row : Nat → Int32) : Nat → Nat → Int32 → Int32
  | 0, _, b => b
  | m + 1, i, b => trR row m (i + 1) (b ||| (1 <<< (row i &&& 31)))
theorem c_trust_loop {x1 : Int32} {M : Nat} (hM : M ≤ 7) : ∀ (m i : Nat) (b : Int32), (i + m = M ∨ (m = 0 ∧ M ≤ i ∧ i ≤ 8)) → Q (some (.int (trR (hi 39) m i b))) (HP hi hl f dr t) →
    wq G (0, 0) d 135 39 [some (.ref 0), some (.int x1), some (.int b), some (.int (nI M)), some (.int (nI i))] [] (0, 0) (HP hi hl f dr t) Q := by
  intro m
  induction m with
  | zero =>
    intro i b hm hQ
    refine wq_iload q135_39 rfl ?_
    refine wq_iload_n q135_41 rfl ?_
    refine wq_icmp_ge q135_42 (fun c42 => ?_) (fun c42 => ?_)
    · refine wq_iload_n q135_68 rfl ?_
      refine rI q135_69 rfl ?_
      exact hQ
    · rw [nI_leI (by omega) (by omega)] at c42
      omega
  | succ m ih =>
    intro i b hm hQ
    refine wq_iload q135_39 rfl ?_
    refine wq_iload_n q135_41 rfl ?_
    refine wq_icmp_ge q135_42 (fun c42 => ?_) (fun c42 => ?_)
    · rw [nI_leI (by omega) (by omega)] at c42
      omega
    · refine wq_iload_n q135_45 rfl ?_
      refine wq_iconst q135_46 ?_
      refine wq_aload_n q135_47 rfl ?_
      refine wq_getR q135_48 rfl rfl rfl ?_
      refine wq_getR q135_51 rfl rfl rfl ?_
      refine wq_iconst q135_54 ?_
      refine wq_iload q135_55 rfl ?_
      refine wq_iadd q135_57 ?_
      refine aI q135_58 rfl ((by rw [show (0 : Int32) = nI 0 from rfl, nI_add, Nat.zero_add])) (by show i < 33; omega) (by first | decide | omega) ?_
      refine wq_ishl q135_59 ?_
      refine wq_ior q135_60 ?_
      refine wq_istore_n (ls' := [_, _, _, _, _]) q135_61 rfl ?_
      refine wq_iinc (ls' := [_, _, _, _, _]) q135_62 rfl rfl ?_
      refine wq_goto q135_65 ?_
      rw [nI_1]
      exact ih (i + 1) _ (by omega) hQ
theorem nI_max (a b : Nat) (ha : a < 2 ^ 31) (hb : b < 2 ^ 31) : (if nI a < nI b then nI b else nI a) = nI (max a b) := by
  by_cases h : a < b
  · rw [if_pos ((nI_ltI ha hb).mpr h), Nat.max_eq_right (by omega)]
  · rw [if_neg (fun z => h ((nI_ltI ha hb).mp z)), Nat.max_eq_left (by omega)]
theorem nI_min (a b : Nat) (ha : a < 2 ^ 31) (hb : b < 2 ^ 31) : (if nI b < nI a then nI b else nI a) = nI (min a b) := by
  by_cases h : b < a
  · rw [if_pos ((nI_ltI hb ha).mpr h), Nat.min_eq_right (by omega)]
  · rw [if_neg (fun z => h ((nI_ltI hb ha).mp z)), Nat.min_eq_left (by omega)]
theorem c_trust {ev wi : Nat} {x : Int32} (hk : CK hi f lw sz n ev wi) (h0 : inB x (hi f 3) = false → Q (some (.int (-1))) (HP hi hl f dr t))
    (h1 : ∀ c, c < n → x = nI c → Q (some (.int (trR (hi 39) (max c wi - (min c wi + 1)) (min c wi + 1) 0))) (HP hi hl f dr t)) : Ct G (0, 0) (d + 1) 135 [.ref 0, .int x] (HP hi hl f dr t) Q := by
  obtain ⟨hf, hw, hlw, ⟨hn, hn1, hev, hwi, hc, hc4, hc0⟩, hsit⟩ := hk
  obtain ⟨f1, -⟩ := hf.frt hi hl f dr t
  have ew : hI (HP hi hl f dr t) (f + 1) 0 = nI wi := hc0
  refine Ct_of (ls := [_, _, _, _, _]) m_135.1.2.2.1 (Nat.le_of_ble_eq_true rfl) rfl ?_
  refine wq_aload_n q135_0 rfl ?_
  refine wq_iload_n q135_1 rfl ?_
  refine cV (As := [_]) q135_2 m_104 rfl rfl rfl ⟨by decide, rfl⟩ rfl (c_isCell hf ?_)
  refine wq_if_ne q135_5 (fun c5 => ?_) (fun c5 => ?_)
  · have c := i10 c5
    rw [hc] at c
    obtain ⟨c', hc', rfl⟩ := inB_N (m := n) (by omega) c
    refine wq_iconst q135_10 ?_
    refine wq_istore_n (ls' := [_, _, _, _, _]) q135_11 rfl ?_
    refine wq_iload_n q135_12 rfl ?_
    refine wq_aload_n q135_13 rfl ?_
    refine wq_getR q135_14 (by first | exact f1 | rfl) rfl (by first | exact f1 | rfl) ?_
    refine cV (As := []) q135_17 m_16 rfl rfl (by first | exact f1 | rfl) ⟨by decide, rfl⟩ rfl (c_window (by exact hf.frt hi hl f dr t) ?_)
    refine wq_max q135_20 ⟨Nat.le.refl, Nat.le.refl, Nat.le_of_ble_eq_true rfl⟩ ?_
    rw [ew, nI_max _ _ (by omega) (by omega)]
    refine wq_istore_n (ls' := [_, _, _, _, _]) q135_23 rfl ?_
    refine wq_iload_n q135_24 rfl ?_
    refine wq_aload_n q135_25 rfl ?_
    refine wq_getR q135_26 (by first | exact f1 | rfl) rfl (by first | exact f1 | rfl) ?_
    refine cV (As := []) q135_29 m_16 rfl rfl (by first | exact f1 | rfl) ⟨by decide, rfl⟩ rfl (c_window (by exact hf.frt hi hl f dr t) ?_)
    refine wq_min q135_32 ⟨Nat.le.refl, Nat.le.refl, Nat.le_of_ble_eq_true rfl⟩ ?_
    rw [ew, nI_min _ _ (by omega) (by omega)]
    refine wq_iconst q135_35 ?_
    refine wq_iadd q135_36 ?_
    refine wq_istore (ls' := [_, _, _, _, _]) q135_37 rfl ?_
    rw [nI_1]
    exact c_trust_loop (by omega) _ _ _ (by omega) (h1 c' hc' rfl)
  · have c := i01 c5
    refine wq_iconst q135_8 ?_
    refine rI q135_9 rfl ?_
    exact h0 c
def evS (lv : Int32) (kn : Nat → Int32) : Nat → Nat → Int32 → Int32
  | 0, _, b => b
  | m + 1, e, b => evS lv kn m (e + 1) (b + (if lv = nI e then 0 else kn (e * 2)))
def weL (worn each : Int32) : Nat → Nat → Int32 → Int32
  | 0, _, _ => -1
  | m + 1, day, l => if worn ≤ l then nI day else weL worn each m (day + 1) (l + each)
theorem c_wears_days {x1 : Int32} (hf : Fok f) : ∀ (m k : Nat) (l : Int32), k + m = 100 → Q (some (.int (weL (hi (f + 1) 2) x1 m k l))) (HP hi hl f dr t) →
    wq G (0, 0) (d + 1) 136 73 [some (.ref 0), some (.int x1), some (.int l), some (.int (nI k))] [] (0, 0) (HP hi hl f dr t) Q := by
  obtain ⟨f1, -⟩ := hf.frt hi hl f dr t
  intro m
  induction m with
  | zero =>
    intro k l hm hQ
    refine wq_iload_n q136_73 rfl ?_
    refine wq_bipush q136_74 ?_
    refine wq_icmp_gt q136_76 (fun c76 => ?_) (fun c76 => ?_)
    · refine wq_iconst q136_102 ?_
      refine rI q136_103 rfl ?_
      exact hQ
    · rw [show (99 : Int32) = nI 99 from rfl, nI_ltI (by omega) (by omega)] at c76
      omega
  | succ m ih =>
    intro k l hm hQ
    rw [weL] at hQ
    refine wq_iload_n q136_73 rfl ?_
    refine wq_bipush q136_74 ?_
    refine wq_icmp_gt q136_76 (fun c76 => ?_) (fun c76 => ?_)
    · rw [show (99 : Int32) = nI 99 from rfl, nI_ltI (by omega) (by omega)] at c76
      omega
    · refine wq_iload_n q136_79 rfl ?_
      refine wq_aload_n q136_80 rfl ?_
      refine wq_getR q136_81 (by first | exact f1 | rfl) rfl (by first | exact f1 | rfl) ?_
      refine cV (As := []) q136_84 m_18 rfl rfl (by first | exact f1 | rfl) ⟨by decide, rfl⟩ rfl (c_worn (by exact hf.frt hi hl f dr t) ?_)
      refine wq_icmp_lt q136_87 (fun c87 => ?_) (fun c87 => ?_)
      · rw [if_neg (show ¬ hi (f + 1) 2 ≤ l from Int32.not_le.mpr c87)] at hQ
        refine wq_iload_n q136_92 rfl ?_
        refine wq_iload_n q136_93 rfl ?_
        refine wq_iadd q136_94 ?_
        refine wq_istore_n (ls' := [_, _, _, _]) q136_95 rfl ?_
        refine wq_iinc (ls' := [_, _, _, _]) q136_96 rfl rfl ?_
        refine wq_goto q136_99 ?_
        rw [nI_1]
        exact ih (k + 1) _ (by omega) hQ
      · rw [if_pos (show hi (f + 1) 2 ≤ l from Int32.not_lt.mp c87)] at hQ
        refine wq_iload_n q136_90 rfl ?_
        refine rI q136_91 rfl ?_
        exact hQ
theorem c_wears_loop {ev wi : Nat} {x3 : Option Value} (hk : CK hi f lw sz n ev wi) : ∀ (m e : Nat) (b : Int32), e + m = ev → Q (some (.int (weL (hi (f + 1) 2) (evS (lvO hi f (sOf (hi 39) wi)) (hi (f + 3)) m e b) 100 0 (hi 39 31)))) (HP hi hl f dr t) →
    wq G (0, 0) (d + 2) 136 13 [some (.ref 0), some (.int b), some (.int (nI e)), x3] [] (0, 0) (HP hi hl f dr t) Q := by
  obtain ⟨hf, hw, hlw, ⟨hn, hn1, hev, hwi, hc, hc4, hc0⟩, hsit⟩ := hk
  obtain ⟨f1, -⟩ := hf.frt hi hl f dr t
  have ec : hI (HP hi hl f dr t) f 4 = nI ev := hc4
  have hsk := hsit.si
  have et := (hsk wi hwi).1
  have hte := (hsk wi hwi).2
  intro m
  induction m with
  | zero =>
    intro e b hm hQ
    refine wq_iload_n q136_13 rfl ?_
    refine wq_aload_n q136_14 rfl ?_
    refine wq_getR q136_15 (by first | exact f1 | rfl) rfl (by first | exact f1 | rfl) ?_
    refine wq_getI q136_18 (by first | exact f1 | rfl) rfl ?_
    refine wq_icmp_ge q136_21 (fun c21 => ?_) (fun c21 => ?_)
    · refine wq_aload_n q136_60 rfl ?_
      refine wq_getR q136_61 rfl rfl rfl ?_
      refine wq_getR q136_64 rfl rfl rfl ?_
      refine wq_bipush q136_67 ?_
      refine aI q136_69 rfl (rfl) (by decide) (by first | decide | omega) ?_
      refine wq_istore_n (ls' := [_, _, _, _]) q136_70 rfl ?_
      refine wq_iconst q136_71 ?_
      refine wq_istore_n (ls' := [_, _, _, _]) q136_72 rfl ?_
      exact c_wears_days hf 100 0 _ (by omega) hQ
    · rw [ec, nI_leI (by omega) (by omega)] at c21
      omega
  | succ m ih =>
    intro e b hm hQ
    rw [evS] at hQ
    refine wq_iload_n q136_13 rfl ?_
    refine wq_aload_n q136_14 rfl ?_
    refine wq_getR q136_15 (by first | exact f1 | rfl) rfl (by first | exact f1 | rfl) ?_
    refine wq_getI q136_18 (by first | exact f1 | rfl) rfl ?_
    refine wq_icmp_ge q136_21 (fun c21 => ?_) (fun c21 => ?_)
    · rw [ec, nI_leI (by omega) (by omega)] at c21
      omega
    · refine wq_iload_n q136_24 rfl ?_
      refine wq_aload_n q136_25 rfl ?_
      refine wq_getR q136_26 (by first | exact f1 | rfl) rfl (by first | exact f1 | rfl) ?_
      refine wq_aload_n q136_29 rfl ?_
      refine cV (As := []) q136_30 m_106 rfl rfl (by first | exact f1 | rfl) ⟨by decide, rfl⟩ rfl (c_teller hf (by omega) hc0 ?_)
      rw [et]
      refine cV (As := [_]) q136_33 m_23 rfl rfl (by first | exact f1 | rfl) ⟨by decide, rfl⟩ rfl (c_leavesOut (by exact hf.frt hi hl f dr t) hte ?_)
      refine wq_iload_n q136_36 rfl ?_
      refine wq_icmp_ne q136_37 (fun c37 => ?_) (fun c37 => ?_)
      · rw [if_neg (show ¬ lvO hi f (sOf (hi 39) wi) = nI e from c37)] at hQ
        refine wq_aload_n q136_44 rfl ?_
        refine wq_getR q136_45 (by first | exact f1 | rfl) rfl (by first | exact f1 | rfl) ?_
        refine wq_iload_n q136_48 rfl ?_
        refine cV (As := [_]) q136_49 m_25 rfl rfl (by first | exact f1 | rfl) ⟨by decide, rfl⟩ rfl (c_knocks (by exact hf.frt hi hl f dr t) (by omega) ?_)
        refine wq_iadd q136_52 ?_
        refine wq_istore_n (ls' := [_, _, _, _]) q136_53 rfl ?_
        refine wq_iinc (ls' := [_, _, _, _]) q136_54 rfl rfl ?_
        refine wq_goto q136_57 ?_
        rw [nI_1]
        exact ih (e + 1) _ (by omega) hQ
      · rw [if_pos (show lvO hi f (sOf (hi 39) wi) = nI e from c37)] at hQ
        refine wq_iconst q136_40 ?_
        refine wq_goto q136_41 ?_
        refine wq_iadd q136_52 ?_
        refine wq_istore_n (ls' := [_, _, _, _]) q136_53 rfl ?_
        refine wq_iinc (ls' := [_, _, _, _]) q136_54 rfl rfl ?_
        refine wq_goto q136_57 ?_
        rw [nI_1]
        exact ih (e + 1) _ (by omega) hQ
theorem c_wears {ev wi : Nat} (hk : CK hi f lw sz n ev wi) (hQ : Q (some (.int (weL (hi (f + 1) 2) (evS (lvO hi f (sOf (hi 39) wi)) (hi (f + 3)) ev 0 0) 100 0 (hi 39 31)))) (HP hi hl f dr t)) : Ct G (0, 0) (d + 2) 136 [.ref 0] (HP hi hl f dr t) Q := by
  have hc := hk.2.2.2.1.2.2.2.2.1
  have hn := hk.2.2.2.1.1
  have hn1 := hk.2.2.2.1.2.1
  refine Ct_of (ls := [_, _, _, _]) m_136.1.2.2.1 (Nat.le_of_ble_eq_true rfl) rfl ?_
  refine wq_aload_n q136_0 rfl ?_
  refine cV (As := []) q136_1 m_102 rfl rfl rfl ⟨by decide, rfl⟩ rfl (c_hasFort hk.1 ?_)
  refine wq_if_ne q136_4 (fun c4 => ?_) (fun c4 => ?_)
  · refine wq_iconst q136_9 ?_
    refine wq_istore_n (ls' := [_, _, _, _]) q136_10 rfl ?_
    refine wq_iconst q136_11 ?_
    refine wq_istore_n (ls' := [_, _, _, _]) q136_12 rfl ?_
    exact c_wears_loop hk ev 0 0 (by omega) hQ
  · have c := p01 c4
    rw [hc] at c
    exact absurd (nI_lt (a := 0) (b := n) (by omega) (by omega)) c
end WAYS
