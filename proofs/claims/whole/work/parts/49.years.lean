/-! THE CLASS: years by draws, codes, prisoners -/
def nxX (x : Int64) : Int64 := x * 6364136223846793005 + 1442695040888963407
def drV (x : Int64) : Int32 := ((x.toUInt64 >>> ((33 : Int32).toInt64.toUInt64 &&& Int64.toUInt64 63)).toInt64 - (x.toUInt64 >>> ((33 : Int32).toInt64.toUInt64 &&& Int64.toUInt64 63)).toInt64 / 10 * 10).toInt32
def wbR (mr : Nat → Int32) (te : Nat) : Nat → Nat → Nat → Nat
  | 0, _, j => j
  | m + 1, p, j => wbR mr te m (p + 1) (if p ≠ te ∧ (j = te ∨ mr j < mr p) then p else j)
theorem wbR_lt {mr : Nat → Int32} {te N : Nat} : ∀ (m p j : Nat), p + m ≤ N → j < N → wbR mr te m p j < N := by
  intro m
  induction m with
  | zero => intro p j _ h; exact h
  | succ m ih =>
    intro p j hp h
    unfold wbR
    refine ih _ _ (by omega) ?_
    split <;> omega
def dpR (D row : Nat → Int32) (dy : Nat) : Nat → Int32 := va_up (va_up (va_up D (dy % 100 * 3) (row 28)) (dy % 100 * 3 + 1) (row 29)) (dy % 100 * 3 + 2) (row 31)
/-- what is drawn to be seen -/
def deS (ch : Nat → Int32) (e : Nat) (x : (Nat → Int32) × Int64) : (Nat → Int32) × Int64 := if seB x.1 e = true then x else if drV (nxX x.2) < ch e then (va_up x.1 28 (x.1 28 ||| (1 <<< (nI e &&& 31))), nxX x.2) else (x.1, nxX x.2)
def deR (ch : Nat → Int32) : Nat → Nat → (Nat → Int32) × Int64 → (Nat → Int32) × Int64
  | 0, _, x => x
  | m + 1, e, x => deR ch m (e + 1) (deS ch e x)
def d2R (hi : Nat → Nat → Int32) (f : Nat) (lw : Option Nat) (sz n ev wi : Nat) (row : Nat → Int32) : Nat → Int32 := if canB hi f row n 2 (-1) (-1) = true then chg hi f lw sz n ev (sOf row) wi row 2 (-1) (-1) else row
def d3R (hi : Nat → Nat → Int32) (f n wi : Nat) (gu : Int32) (x : Int64) (row : Nat → Int32) : Nat → Int32 := if drV x < gu then swR row n (row wi) (nI (wbR (fun p => hi (f + 2) (p * 5 + 1)) (sOf row wi) n 0 (sOf row wi))) else row
/-- a day of years, up to its end -/
def ddR (hi : Nat → Nat → Int32) (f : Nat) (lw : Option Nat) (sz n ev wi : Nat) (gu : Int32) (x : (Nat → Int32) × Int64) : (Nat → Int32) × Int64 :=
  (d3R hi f n wi gu (nxX (deR (fun e => hi (f + 3) (e * 2 + 1)) ev 0 x).2) (d2R hi f lw sz n ev wi (deR (fun e => hi (f + 3) (e * 2 + 1)) ev 0 x).1), nxX (deR (fun e => hi (f + 3) (e * 2 + 1)) ev 0 x).2)
def yrP (hi : Nat → Nat → Int32) (row' : Nat → Int32) (nx kp dy : Nat) (hi' : Nat → Nat → Int32) : Prop :=
  hi' 39 = edR row' ∧ hi' 49 = va_cpy (hi 39) (hi 49) 0 (nx * 33) 33 ∧ hi' 48 = va_up (va_up (hi 48) 1 (nI ((nx + 1) % 40))) 2 (nI (min (kp + 1) 40)) ∧ hi' 45 = dpR (hi 45) row' dy ∧ Same (45 :: 48 :: 49 :: 52 :: 39 :: scr0) hi hi'
section YEARS
variable {G : ph_G} {d a r n f dr t sz : Nat} {hi : Nat → Nat → Int32} {hl : Nat → Nat → Int64} {Q : Option Value → ph_H → Prop} {lw : Option Nat}
theorem c_drawOfTen (hQ : Q (some (.int (drV (nxX (hl 0 19))))) (HP hi (up2 hl 0 19 (nxX (hl 0 19))) f dr t)) : Ct G (0, 0) d 124 [.ref 0] (HP hi hl f dr t) Q := by
  refine Ct_of (ls := [_]) m_124.1.2.2.1 (Nat.le_of_ble_eq_true rfl) rfl ?_
  refine wq_aload_n q124_0 rfl ?_
  refine wq_aload_n q124_1 rfl ?_
  refine wq_getL q124_2 rfl rfl ?_
  refine wq_ldc2_w q124_5 ?_
  refine wq_lmul q124_8 ?_
  refine wq_ldc2_w q124_9 ?_
  refine wq_ladd q124_12 ?_
  refine wq_putL q124_13 rfl rfl ?_
  refine wq_aload_n q124_16 rfl ?_
  refine wq_getL q124_17 rfl rfl ?_
  refine wq_bipush q124_20 ?_
  refine wq_lushr q124_22 ?_
  refine wq_ldc2_w q124_23 ?_
  refine wq_lrem q124_26 (by decide) ?_
  refine wq_l2i q124_27 ?_
  refine rI q124_28 rfl ?_
  exact hQ
theorem c_worthiest_loop {te : Nat} (hf : Fok f) (hn : n ≤ 7) (hc : hi f 3 = nI n) (hte : te < 7) : ∀ (m p j : Nat), p + m = n → j < 7 → Q (some (.int (nI (wbR (fun p => hi (f + 2) (p * 5 + 1)) te m p j)))) (HP hi hl f dr t) →
    wq G (0, 0) (d + 1) 125 4 [some (.ref 0), some (.int (nI te)), some (.int (nI j)), some (.int (nI p))] [] (0, 0) (HP hi hl f dr t) Q := by
  obtain ⟨f1, -⟩ := hf.frt hi hl f dr t
  have hF := hf.frt hi hl f dr t
  have ec : hI (HP hi hl f dr t) f 3 = nI n := hc
  intro m
  induction m with
  | zero =>
    intro p j hm hj hQ
    refine wq_iload_n q125_4 rfl ?_
    refine wq_aload_n q125_5 rfl ?_
    refine wq_getR q125_6 (by first | exact f1 | rfl) rfl (by first | exact f1 | rfl) ?_
    refine wq_getI q125_9 (by first | exact f1 | rfl) rfl ?_
    refine wq_icmp_ge q125_12 (fun c12 => ?_) (fun c12 => ?_)
    · refine wq_iload_n q125_52 rfl ?_
      refine rI q125_53 rfl ?_
      exact hQ
    · rw [ec, nI_leI (by omega) (by omega)] at c12
      omega
  | succ m ih =>
    intro p j hm hj hQ
    rw [wbR] at hQ
    refine wq_iload_n q125_4 rfl ?_
    refine wq_aload_n q125_5 rfl ?_
    refine wq_getR q125_6 (by first | exact f1 | rfl) rfl (by first | exact f1 | rfl) ?_
    refine wq_getI q125_9 (by first | exact f1 | rfl) rfl ?_
    refine wq_icmp_ge q125_12 (fun c12 => ?_) (fun c12 => ?_)
    · rw [ec, nI_leI (by omega) (by omega)] at c12
      omega
    · refine wq_iload_n q125_15 rfl ?_
      refine wq_iload_n q125_16 rfl ?_
      refine wq_icmp_eq q125_17 (fun c17 => ?_) (fun c17 => ?_)
      · rw [nI_eq (by omega) (by omega)] at c17
        rw [if_neg (fun z => z.1 c17)] at hQ
        refine wq_iinc (ls' := [_, _, _, _]) q125_46 rfl rfl ?_
        refine wq_goto q125_49 ?_
        rw [nI_1]
        exact ih (p + 1) j (by omega) hj hQ
      · rw [nI_eq (by omega) (by omega)] at c17
        refine wq_iload_n q125_20 rfl ?_
        refine wq_iload_n q125_21 rfl ?_
        refine wq_icmp_eq q125_22 (fun c22 => ?_) (fun c22 => ?_)
        · rw [nI_eq (by omega) (by omega)] at c22
          rw [if_pos ⟨c17, Or.inl c22⟩] at hQ
          refine wq_iload_n q125_44 rfl ?_
          refine wq_istore_n (ls' := [_, _, _, _]) q125_45 rfl ?_
          refine wq_iinc (ls' := [_, _, _, _]) q125_46 rfl rfl ?_
          refine wq_goto q125_49 ?_
          rw [nI_1]
          exact ih (p + 1) p (by omega) (by omega) hQ
        · rw [nI_eq (by omega) (by omega)] at c22
          refine wq_aload_n q125_25 rfl ?_
          refine wq_getR q125_26 (by first | exact f1 | rfl) rfl (by first | exact f1 | rfl) ?_
          refine wq_iload_n q125_29 rfl ?_
          refine cV (As := [_]) q125_30 m_21 rfl rfl (by first | exact f1 | rfl) ⟨by decide, rfl⟩ rfl (c_merit hF (by omega) ?_)
          refine wq_aload_n q125_33 rfl ?_
          refine wq_getR q125_34 (by first | exact f1 | rfl) rfl (by first | exact f1 | rfl) ?_
          refine wq_iload_n q125_37 rfl ?_
          refine cV (As := [_]) q125_38 m_21 rfl rfl (by first | exact f1 | rfl) ⟨by decide, rfl⟩ rfl (c_merit hF hj ?_)
          refine wq_icmp_le q125_41 (fun c41 => ?_) (fun c41 => ?_)
          · rw [if_neg (by rintro ⟨-, z | z⟩; exact c22 z; exact absurd z (Int32.not_lt.mpr c41))] at hQ
            refine wq_iinc (ls' := [_, _, _, _]) q125_46 rfl rfl ?_
            refine wq_goto q125_49 ?_
            rw [nI_1]
            exact ih (p + 1) j (by omega) hj hQ
          · rw [if_pos ⟨c17, Or.inr (Int32.not_le.mp c41)⟩] at hQ
            refine wq_iload_n q125_44 rfl ?_
            refine wq_istore_n (ls' := [_, _, _, _]) q125_45 rfl ?_
            refine wq_iinc (ls' := [_, _, _, _]) q125_46 rfl rfl ?_
            refine wq_goto q125_49 ?_
            rw [nI_1]
            exact ih (p + 1) p (by omega) (by omega) hQ
theorem c_worthiestBut {te : Nat} (hf : Fok f) (hn : n ≤ 7) (hc : hi f 3 = nI n) (hte : te < 7) (hQ : Q (some (.int (nI (wbR (fun p => hi (f + 2) (p * 5 + 1)) te n 0 te)))) (HP hi hl f dr t)) : Ct G (0, 0) (d + 1) 125 [.ref 0, .int (nI te)] (HP hi hl f dr t) Q := by
  refine Ct_of (ls := [_, _, _, _]) m_125.1.2.2.1 (Nat.le_of_ble_eq_true rfl) rfl ?_
  refine wq_iload_n q125_0 rfl ?_
  refine wq_istore_n (ls' := [_, _, _, _]) q125_1 rfl ?_
  refine wq_iconst q125_2 ?_
  refine wq_istore_n (ls' := [_, _, _, _]) q125_3 rfl ?_
  exact c_worthiest_loop hf hn hc hte n 0 te (by omega) hte hQ
/-- what holds within a day of years: h0 behind the keeping -/
def dyI (h0 : Nat → Nat → Int32) (x : (Nat → Int32) × Int64) (hi' : Nat → Nat → Int32) (hl' : Nat → Nat → Int64) : Prop := Same (52 :: 39 :: scr0) h0 hi' ∧ hi' 39 = x.1 ∧ hl' 0 19 = x.2
theorem c_dday_loop {ev wi : Nat} (hf : Fok f) (hw : Lawk hi lw sz) (hlw : LwN hi lw) (hk : FoK hi f n ev wi)
    (K : ∀ (x : (Nat → Int32) × Int64) (hi2 : Nat → Nat → Int32) (hl2 : Nat → Nat → Int64) (x1 : Option Value), dyI hi x hi2 (up2 hl 0 19 x.2) → Sit x.1 n → x = deR (fun e => hi (f + 3) (e * 2 + 1)) ev 0 (hi 39, hl 0 19) → wq G (0, 0) (d + 7) 123 67 [some (.ref 0), x1] [] (0, 0) (HP hi2 (up2 hl 0 19 x.2) f dr t) Q) :
    ∀ (m e : Nat) (x : (Nat → Int32) × Int64) (hi' : Nat → Nat → Int32), e + m = ev → dyI hi x hi' (up2 hl 0 19 x.2) → Sit x.1 n → deR (fun e => hi (f + 3) (e * 2 + 1)) ev 0 (hi 39, hl 0 19) = deR (fun e => hi (f + 3) (e * 2 + 1)) m e x →
    wq G (0, 0) (d + 7) 123 13 [some (.ref 0), some (.int (nI e))] [] (0, 0) (HP hi' (up2 hl 0 19 x.2) f dr t) Q := by
  have hs : Sok 38 39 := Or.inl ⟨rfl, rfl⟩
  have hev := hk.2.2.1
  intro m
  induction m with
  | zero =>
    intro e x hi' hm hI' hsit heq
    have hfl := FLs_of hf hw hI'.1 (by decide)
    obtain ⟨f1, -⟩ := hf.frt hi' (up2 hl 0 19 x.2) f dr t
    have ec : hI (HP hi' (up2 hl 0 19 x.2) f dr t) f 4 = nI ev := (hk.moved hfl).2.2.2.2.2.1
    refine wq_iload_n q123_13 rfl ?_
    refine wq_aload_n q123_14 rfl ?_
    refine wq_getR q123_15 (by first | exact f1 | rfl) rfl (by first | exact f1 | rfl) ?_
    refine wq_getI q123_18 (by first | exact f1 | rfl) rfl ?_
    refine wq_icmp_ge q123_21 (fun c21 => ?_) (fun c21 => ?_)
    · exact K x hi' hl _ hI' hsit heq.symm
    · rw [ec, nI_leI (by omega) (by omega)] at c21
      omega
  | succ m ih =>
    intro e x hi' hm hI' hsit heq
    have hfl := FLs_of hf hw hI'.1 (by decide)
    have hk2 := hk.moved hfl
    obtain ⟨f1, -⟩ := hf.frt hi' (up2 hl 0 19 x.2) f dr t
    have ec : hI (HP hi' (up2 hl 0 19 x.2) f dr t) f 4 = nI ev := hk2.2.2.2.2.2.1
    have e39 : hI (HP hi' (up2 hl 0 19 x.2) f dr t) 39 = x.1 := hI'.2.1
    rw [deR] at heq
    refine wq_iload_n q123_13 rfl ?_
    refine wq_aload_n q123_14 rfl ?_
    refine wq_getR q123_15 (by first | exact f1 | rfl) rfl (by first | exact f1 | rfl) ?_
    refine wq_getI q123_18 (by first | exact f1 | rfl) rfl ?_
    refine wq_icmp_ge q123_21 (fun c21 => ?_) (fun c21 => ?_)
    · rw [ec, nI_leI (by omega) (by omega)] at c21
      omega
    · refine wq_aload_n q123_24 rfl ?_
      refine wq_getR q123_25 rfl rfl rfl ?_
      refine wq_iload_n q123_28 rfl ?_
      refine cV (As := [_]) q123_29 m_56 rfl rfl rfl ⟨by decide, rfl⟩ rfl (c_sees (hs.scn _ _ _ _ _) ?_)
      refine wq_if_ne q123_32 (fun c32 => ?_) (fun c32 => ?_)
      · have c := p10 c32
        rw [e39] at c
        have e1 : deS (fun e => hi (f + 3) (e * 2 + 1)) e x = x := by unfold deS; rw [if_pos (by simp [seB, c])]
        rw [e1] at heq
        refine wq_iinc (ls' := [_, _]) q123_61 rfl rfl ?_
        refine wq_goto q123_64 ?_
        rw [nI_1]
        exact ih (e + 1) x hi' (by omega) hI' hsit heq
      · have c := p01 c32
        rw [e39] at c
        have hse : ¬ seB x.1 e = true := by simp [seB, c]
        refine wq_aload_n q123_35 rfl ?_
        refine cV (As := []) q123_36 m_124 rfl rfl rfl ⟨by decide, rfl⟩ rfl (c_drawOfTen ?_)
        have el : up2 (up2 hl 0 19 x.2) 0 19 (nxX (up2 hl 0 19 x.2 0 19)) = up2 hl 0 19 (nxX x.2) := up2_uu _ _ _ _ _
        have el2 : up2 hl 0 19 x.2 0 19 = x.2 := rfl
        rw [el, el2]
        obtain ⟨f1, -⟩ := hf.frt hi' (up2 hl 0 19 (nxX x.2)) f dr t
        refine wq_aload_n q123_39 rfl ?_
        refine wq_getR q123_40 (by first | exact f1 | rfl) rfl (by first | exact f1 | rfl) ?_
        refine wq_iload_n q123_43 rfl ?_
        refine cV (As := [_]) q123_44 m_26 rfl rfl (by first | exact f1 | rfl) ⟨by decide, rfl⟩ rfl (c_chance (by exact hf.frt hi' (up2 hl 0 19 (nxX x.2)) f dr t) (by omega) ?_)
        refine wq_icmp_ge q123_47 (fun c47 => ?_) (fun c47 => ?_)
        · have c47' : ¬ drV (nxX x.2) < hi (f + 3) (e * 2 + 1) := by rw [← hfl.2.2.2.1]; exact Int32.not_lt.mpr c47
          have e1 : deS (fun e => hi (f + 3) (e * 2 + 1)) e x = (x.1, nxX x.2) := by unfold deS; rw [if_neg hse, if_neg c47']
          rw [e1] at heq
          refine wq_iinc (ls' := [_, _]) q123_61 rfl rfl ?_
          refine wq_goto q123_64 ?_
          rw [nI_1]
          exact ih (e + 1) (x.1, nxX x.2) hi' (by omega) ⟨hI'.1, hI'.2.1, rfl⟩ hsit heq
        · have c47' : drV (nxX x.2) < hi (f + 3) (e * 2 + 1) := by rw [← hfl.2.2.2.1]; exact Int32.not_le.mp c47
          have e1 : deS (fun e => hi (f + 3) (e * 2 + 1)) e x = (va_up x.1 28 (x.1 28 ||| (1 <<< (nI e &&& 31))), nxX x.2) := by unfold deS; rw [if_neg hse, if_pos c47']
          rw [e1] at heq
          refine wq_aload_n q123_50 rfl ?_
          refine wq_aload_n q123_51 rfl ?_
          refine wq_getR q123_52 rfl rfl rfl ?_
          refine wq_iconst q123_55 ?_
          refine wq_iload_n q123_56 rfl ?_
          refine wq_iconst q123_57 ?_
          refine cV (As := [_, _, _, _]) q123_58 m_122 rfl rfl rfl ⟨by decide, rfl⟩ rfl (c_change (s := sOf x.1) hf hs (hw.moved hfl) (hlw.moved (hI'.1 0 (by decide))) hk2 (by rw [hI'.2.1]; exact hsit.si) (fun hi2 g1 g2 => ?_))
          refine wq_iinc (ls' := [_, _]) q123_61 rfl rfl ?_
          refine wq_goto q123_64 ?_
          rw [nI_1]
          refine ih (e + 1) (va_up x.1 28 (x.1 28 ||| (1 <<< (nI e &&& 31))), nxX x.2) hi2 (by omega) ⟨hI'.1.tr g1, ?_, rfl⟩ (fun c hc' => by have := hk.1; show ∃ k, k < 7 ∧ va_up x.1 28 _ c = nI k; rw [vu_o _ _ (by omega)]; exact hsit c hc') heq
          rw [g2, hI'.2.1]
          unfold chg
          rw [if_pos rfl]
theorem sOf_si {row : Nat → Int32} (h : Sit row n) {c : Nat} (hc : c < n) : row c = nI (sOf row c) ∧ sOf row c < 7 := h.si c hc
theorem d2R_ok {ev wi dy : Nat} {row : Nat → Int32} (hk : FoK hi f n ev wi) (hs : Sit row n) (hd : row 32 = nI dy) (hdy : dy ≤ 9999) : Sit (d2R hi f lw sz n ev wi row) n ∧ d2R hi f lw sz n ev wi row 32 = row 32 := by
  unfold d2R
  split
  · rename_i hb
    refine ⟨(chg_ok hk hs hd hdy hb).1, ?_⟩
    unfold chg
    rw [if_neg (by decide), if_neg (by decide), if_pos rfl]
    exact chg_2 (hs.si wi hk.2.2.2.1).2 hk.1 (Or.inr (Or.inr rfl))
  · exact ⟨hs, rfl⟩
theorem deR_32 {ch : Nat → Int32} {j : Nat} (hj : j ≠ 28) : ∀ (m e : Nat) (x : (Nat → Int32) × Int64), (deR ch m e x).1 j = x.1 j := by
  intro m
  induction m with
  | zero => intro e x; rfl
  | succ m ih =>
    intro e x
    unfold deR
    rw [ih]
    unfold deS
    split
    · rfl
    · split
      · exact vu_o _ _ hj
      · rfl
theorem c_drawDay {ev wi nx kp dy : Nat} (hk : OwK hi f lw sz n ev wi nx kp dy (sOf (hi 39))) (hsit : Sit (hi 39) n)
    (hQ : ∀ hi', yrP hi (ddR hi f lw sz n ev wi (hi 0 8) (hi 39, hl 0 19)).1 nx kp dy hi' → Sit (hi' 39) n → hi' 39 32 = nI (dy + 1) → Q none (HP hi' (up2 hl 0 19 (ddR hi f lw sz n ev wi (hi 0 8) (hi 39, hl 0 19)).2) f dr t)) : Ct G (0, 0) (d + 7) 123 [.ref 0] (HP hi hl f dr t) Q := by
  obtain ⟨hf, hw, hlw, hfk, hsk, ⟨ha1, ha2, ha3, ha4⟩, hd1, hd2⟩ := hk
  have hs : Sok 38 39 := Or.inl ⟨rfl, rfl⟩
  have ek := keA_same (hi := hi) nx kp
  have hfl0 : FLs f lw hi (keA hi 39 nx kp) := FLs_of hf hw ek (by decide)
  have e39 : keA hi 39 nx kp 39 = hi 39 := ek 39 (by decide)
  have hwi := hfk.2.2.2.1
  have hn := hfk.1
  refine Ct_of (ls := [_, _]) m_123.1.2.2.1 (Nat.le_of_ble_eq_true rfl) rfl ?_
  refine wq_aload_n q123_0 rfl ?_
  refine wq_getR q123_1 rfl rfl rfl ?_
  refine wq_aload_n q123_4 rfl ?_
  refine wq_getR q123_5 rfl rfl rfl ?_
  refine cV (As := [_]) q123_8 m_2 rfl rfl rfl ⟨by decide, rfl⟩ rfl (c_keep (a := 38) (r := 39) (hs.scn _ _ _ _ _) ha1 ha2 ha3 ha4 ?_)
  refine wq_iconst q123_11 ?_
  refine wq_istore_n (ls' := [_, _]) q123_12 rfl ?_
  have el0 : up2 hl 0 19 (hl 0 19) = hl := up2_self _ _ _ rfl
  have main := c_dday_loop (G := G) (d := d) (hi := keA hi 39 nx kp) (hl := hl) (dr := dr) (t := t) (Q := Q) hf (hw.moved hfl0) (hlw.moved (ek 0 (by decide))) (hfk.moved hfl0) (fun x hi2 hl2 x1 hI2 hsx hx => ?_) ev 0 (hi 39, hl 0 19) (keA hi 39 nx kp) (by omega) ⟨Same.rf, e39, rfl⟩ hsit (by rw [e39])
  · rw [el0] at main
    exact main
  · rw [hfl0.2.2.2.1, e39] at hx
    have hS2 : Same (48 :: 49 :: 52 :: 39 :: scr0) hi hi2 := by
      intro b hb
      rw [hI2.1 b (fun z => hb (List.mem_cons_of_mem _ (List.mem_cons_of_mem _ z))), ek b (fun z => hb ((show ∀ x ∈ (48 :: 49 :: []), x ∈ (48 :: 49 :: 52 :: 39 :: scr0) by decide) b z))]
    have hfl2 : FLs f lw hi hi2 := FLs_of hf hw hS2 (by decide)
    have hw2 := hw.moved hfl2
    have hlw2 := hlw.moved (hS2 0 (by decide))
    have hk2 := hfk.moved hfl2
    have hx32 : x.1 32 = nI dy := by rw [hx, deR_32 (by decide)]; exact hd1
    have ok2 := d2R_ok (lw := lw) (sz := sz) hfk hsx hx32 hd2
    have rest : ∀ (hi3 : Nat → Nat → Int32), Same (52 :: 39 :: scr0) hi2 hi3 → hi3 39 = d2R hi f lw sz n ev wi x.1 → wq G (0, 0) (d + 7) 123 92 [some (.ref 0), x1] [] (0, 0) (HP hi3 (up2 hl 0 19 x.2) f dr t) Q := by
      intro hi3 g1 g2
      have hS3 : Same (48 :: 49 :: 52 :: 39 :: scr0) hi hi3 := hS2.tr (fun b hb => g1 b (fun z => hb (List.mem_cons_of_mem _ (List.mem_cons_of_mem _ z))))
      have hfl3 : FLs f lw hi hi3 := FLs_of hf hw hS3 (by decide)
      have hw3 := hw.moved hfl3
      have hlw3 := hlw.moved (hS3 0 (by decide))
      have hk3 := hfk.moved hfl3
      have ht := ok2.1.si wi hwi
      have el : up2 (up2 hl 0 19 x.2) 0 19 (nxX (up2 hl 0 19 x.2 0 19)) = up2 hl 0 19 (nxX x.2) := up2_uu _ _ _ _ _
      have el2 : up2 hl 0 19 x.2 0 19 = x.2 := rfl
      have fin : ∀ (hi4 : Nat → Nat → Int32), Same (52 :: 39 :: scr0) hi3 hi4 → hi4 39 = d3R hi f n wi (hi 0 8) (nxX x.2) (d2R hi f lw sz n ev wi x.1) → Sit (hi4 39) n → hi4 39 32 = nI dy → wq G (0, 0) (d + 7) 123 124 [some (.ref 0), x1] [] (0, 0) (HP hi4 (up2 hl 0 19 (nxX x.2)) f dr t) Q := by
        intro hi4 k1 k2 k3 k4
        have hS4 : Same (48 :: 49 :: 52 :: 39 :: scr0) hi hi4 := hS3.tr (fun b hb => k1 b (fun z => hb (List.mem_cons_of_mem _ (List.mem_cons_of_mem _ z))))
        refine wq_aload_n q123_124 rfl ?_
        refine wq_getR q123_125 rfl rfl rfl ?_
        refine wq_aload_n q123_128 rfl ?_
        refine wq_getR q123_129 rfl rfl rfl ?_
        refine cV (As := [_]) q123_132 m_9 rfl rfl rfl ⟨by decide, rfl⟩ rfl (c_dput (dy := dy) (a := 38) (r := 39) (hs.scn _ _ _ _ _) (by decide) k4 hd2 ?_)
        have hS5 : Same (45 :: 48 :: 49 :: 52 :: 39 :: scr0) hi (upC hi4 45 (dpA hi4 45 39 dy)) := by
          intro b hb
          rw [upC_o _ _ (fun z => hb (by rw [z]; decide))]
          exact hS4 b (fun z => hb (List.mem_cons_of_mem _ z))
        have hfl5 : FLs f lw hi (upC hi4 45 (dpA hi4 45 39 dy)) := FLs_of hf hw hS5 (by decide)
        have e5 : upC hi4 45 (dpA hi4 45 39 dy) 39 = hi4 39 := upC_o _ _ (by decide)
        refine wq_aload_n q123_135 rfl ?_
        refine wq_aload_n q123_136 rfl ?_
        refine wq_getR q123_137 rfl rfl rfl ?_
        refine wq_iconst q123_140 ?_
        refine wq_iconst q123_141 ?_
        refine wq_iconst q123_142 ?_
        refine cV (As := [_, _, _, _]) q123_143 m_122 rfl rfl rfl ⟨by decide, rfl⟩ rfl (c_change (s := sOf (hi4 39)) hf hs (hw.moved hfl5) (hlw.moved (hS5 0 (by decide))) (hfk.moved hfl5) (by rw [e5]; exact k3.si) (fun hi6 q1 q2 => ?_))
        have q3 : hi6 39 = edR (hi4 39) := by
          rw [q2, e5]
          unfold chg
          rw [if_neg (by decide), if_neg (by decide), if_neg (by decide), if_neg (by decide)]
        refine rV q123_146 ?_
        have hdd : ddR hi f lw sz n ev wi (hi 0 8) (hi 39, hl 0 19) = (hi4 39, nxX x.2) := by
          unfold ddR
          rw [← hx, k2]
        rw [hdd] at hQ
        refine hQ hi6 ⟨q3, ?_, ?_, ?_, ?_⟩ (by rw [q3]; exact fun c hc' => by rw [edR_low (by omega)]; exact k3 c hc') (by rw [q3, edR_32, k4]; exact nI_1 dy)
        · rw [q1 49 (by decide), upC_o _ _ (by decide), k1 49 (by decide), g1 49 (by decide), hI2.1 49 (by decide)]
          show up2 (up2 (upC hi 49 _) 48 1 _) 48 2 _ 49 = _
          rw [up2_o _ _ _ (by decide), up2_o _ _ _ (by decide), upC_s]
        · rw [q1 48 (by decide), upC_o _ _ (by decide), k1 48 (by decide), g1 48 (by decide), hI2.1 48 (by decide)]
          rfl
        · rw [q1 45 (by decide), upC_s]
          have e45 : hi4 45 = hi 45 := by rw [k1 45 (by decide), g1 45 (by decide), hI2.1 45 (by decide), ek 45 (by decide)]
          unfold dpA dpR
          rw [e45]
        · intro b hb
          rw [q1 b (fun z => hb ((show ∀ x ∈ (52 :: 39 :: scr0), x ∈ (45 :: 48 :: 49 :: 52 :: 39 :: scr0) by decide) b z))]
          exact hS5 b hb
      refine wq_aload_n q123_92 rfl ?_
      refine cV (As := []) q123_93 m_124 rfl rfl rfl ⟨by decide, rfl⟩ rfl (c_drawOfTen ?_)
      rw [el, el2]
      refine wq_aload_n q123_96 rfl ?_
      refine wq_getI q123_97 rfl rfl ?_
      refine wq_icmp_ge q123_100 (fun c100 => ?_) (fun c100 => ?_)
      · have c : ¬ drV (nxX x.2) < hi 0 8 := by
          rw [← hS3 0 (by decide)]
          exact Int32.not_lt.mpr c100
        have e3 : d3R hi f n wi (hi 0 8) (nxX x.2) (d2R hi f lw sz n ev wi x.1) = d2R hi f lw sz n ev wi x.1 := by unfold d3R; rw [if_neg c]
        exact fin hi3 Same.rf (by rw [e3]; exact g2) (by rw [g2]; exact ok2.1) (by rw [g2, ok2.2]; exact hx32)
      · have c : drV (nxX x.2) < hi 0 8 := by
          rw [← hS3 0 (by decide)]
          exact Int32.not_le.mp c100
        have e3 : d3R hi f n wi (hi 0 8) (nxX x.2) (d2R hi f lw sz n ev wi x.1) = swR (d2R hi f lw sz n ev wi x.1) n (d2R hi f lw sz n ev wi x.1 wi) (nI (wbR (fun p => hi (f + 2) (p * 5 + 1)) (sOf (d2R hi f lw sz n ev wi x.1) wi) n 0 (sOf (d2R hi f lw sz n ev wi x.1) wi))) := by unfold d3R; rw [if_pos c]
        refine wq_aload_n q123_103 rfl ?_
        refine wq_aload_n q123_104 rfl ?_
        refine wq_getR q123_105 rfl rfl rfl ?_
        refine wq_iconst q123_108 ?_
        refine wq_aload_n q123_109 rfl ?_
        refine cV (As := []) q123_110 m_106 rfl rfl rfl ⟨by decide, rfl⟩ rfl (c_teller (wi := wi) hf (by omega) hk3.2.2.2.2.2.2 ?_)
        refine wq_aload_n q123_113 rfl ?_
        refine wq_aload_n q123_114 rfl ?_
        refine cV (As := []) q123_115 m_106 rfl rfl rfl ⟨by decide, rfl⟩ rfl (c_teller (wi := wi) hf (by omega) hk3.2.2.2.2.2.2 ?_)
        rw [g2, ht.1]
        refine cV (As := [_]) q123_118 m_125 rfl rfl rfl ⟨by decide, rfl⟩ rfl (c_worthiestBut hf hn hk3.2.2.2.2.1 ht.2 ?_)
        rw [hfl3.2.2.1]
        have hwb := wbR_lt (mr := fun p => hi (f + 2) (p * 5 + 1)) (te := sOf (d2R hi f lw sz n ev wi x.1) wi) (N := 7) n 0 (sOf (d2R hi f lw sz n ev wi x.1) wi) (by omega) ht.2
        refine cV (As := [_, _, _, _]) q123_121 m_122 rfl rfl rfl ⟨by decide, rfl⟩ rfl (c_change (s := sOf (d2R hi f lw sz n ev wi x.1)) hf hs hw3 hlw3 hk3 (by rw [g2]; exact ok2.1.si) (fun hi4 k1 k2 => ?_))
        have k3 : hi4 39 = d3R hi f n wi (hi 0 8) (nxX x.2) (d2R hi f lw sz n ev wi x.1) := by
          rw [k2, e3, g2, ht.1]
          unfold chg
          rw [if_neg (by decide), if_pos rfl]
        refine fin hi4 k1 k3 ?_ ?_
        · rw [k3, e3, ht.1]
          exact ok2.1.sw ht.2 hwb
        · rw [k3, e3, swR_high hn (by decide), ok2.2]
          exact hx32
    have ecb : canB hi2 f (hi2 39) n 2 (-1) (-1) = canB hi f x.1 n 2 (-1) (-1) := by rw [hI2.2.1, canB_congr hfl2]
    refine wq_aload_n q123_67 rfl ?_
    refine wq_aload_n q123_68 rfl ?_
    refine wq_getR q123_69 rfl rfl rfl ?_
    refine wq_iconst q123_72 ?_
    refine wq_iconst q123_73 ?_
    refine wq_iconst q123_74 ?_
    refine cV (As := [_, _, _, _]) q123_75 m_121 rfl rfl rfl ⟨by decide, rfl⟩ rfl (c_canBe hf hs hn hk2.2.2.2.2.1 ?_)
    refine wq_if_eq q123_78 (fun c78 => ?_) (fun c78 => ?_)
    · have c := i01 c78
      rw [ecb] at c
      exact rest hi2 Same.rf (by rw [hI2.2.1]; unfold d2R; rw [if_neg (by rw [c]; decide)])
    · have c := i10 c78
      rw [ecb] at c
      refine wq_aload_n q123_81 rfl ?_
      refine wq_aload_n q123_82 rfl ?_
      refine wq_getR q123_83 rfl rfl rfl ?_
      refine wq_iconst q123_86 ?_
      refine wq_iconst q123_87 ?_
      refine wq_iconst q123_88 ?_
      refine cV (As := [_, _, _, _]) q123_89 m_122 rfl rfl rfl ⟨by decide, rfl⟩ rfl (c_change (s := sOf x.1) hf hs hw2 hlw2 hk2 (by rw [hI2.2.1]; exact hsx.si) (fun hi3 g1 g2 => ?_))
      refine rest hi3 g1 ?_
      rw [g2, hI2.2.1, chg_congr hfl2]
      unfold d2R
      rw [if_pos c]
/-- days of years, one after the other -/
def YrR (f : Nat) (lw : Option Nat) (sz n ev wi : Nat) : Nat → (Nat → Nat → Int32) → Int64 → (Nat → Nat → Int32) → Int64 → Prop
  | 0, hi, x, hi', x' => hi' = hi ∧ x' = x
  | k + 1, hi, x, hi', x' => ∃ hi1 nx kp dy, AcK hi nx kp ∧ hi 39 32 = nI dy ∧ yrP hi (ddR hi f lw sz n ev wi (hi 0 8) (hi 39, x)).1 nx kp dy hi1 ∧ YrR f lw sz n ev wi k hi1 (ddR hi f lw sz n ev wi (hi 0 8) (hi 39, x)).2 hi' x'
theorem c_years_loop {ev wi N : Nat} {sd : Int64} (hN : N ≤ 60) : ∀ (m k : Nat) (hi : Nat → Nat → Int32) (x : Int64) (nx kp dy : Nat), k + m = N → OwK hi f lw sz n ev wi nx kp dy (sOf (hi 39)) → Sit (hi 39) n → dy + m ≤ 9999 → (∀ hi' x', YrR f lw sz n ev wi m hi x hi' x' → Q (some (.int (hi' 39 32))) (HP hi' (up2 hl 0 19 x') f dr t)) →
    wq G (0, 0) (d + 8) 115 18 [some (.ref 0), some (.int (nI N)), some (.long sd), none, some (.int (nI k))] [] (0, 0) (HP hi (up2 hl 0 19 x) f dr t) Q := by
  intro m
  induction m with
  | zero =>
    intro k hi x nx kp dy hm hk hsit hd hQ
    refine wq_iload q115_18 rfl ?_
    refine wq_iload_n q115_20 rfl ?_
    refine wq_icmp_ge q115_21 (fun c21 => ?_) (fun c21 => ?_)
    · refine wq_aload_n q115_34 rfl ?_
      refine wq_getR q115_35 rfl rfl rfl ?_
      refine wq_getR q115_38 rfl rfl rfl ?_
      refine wq_bipush q115_41 ?_
      refine aI q115_43 rfl (rfl) (by decide) (by first | decide | omega) ?_
      refine rI q115_44 rfl ?_
      exact hQ hi x ⟨rfl, rfl⟩
    · rw [nI_leI (by omega) (by omega)] at c21
      omega
  | succ m ih =>
    intro k hi x nx kp dy hm hk hsit hd hQ
    refine wq_iload q115_18 rfl ?_
    refine wq_iload_n q115_20 rfl ?_
    refine wq_icmp_ge q115_21 (fun c21 => ?_) (fun c21 => ?_)
    · rw [nI_leI (by omega) (by omega)] at c21
      omega
    · refine wq_aload_n q115_24 rfl ?_
      refine cV (As := []) q115_25 m_123 rfl rfl rfl ⟨by decide, rfl⟩ rfl (c_drawDay hk hsit (fun hi' h1 h2 h3 => ?_))
      have el : ∀ y, up2 (up2 hl 0 19 x) 0 19 y = up2 hl 0 19 y := fun y => up2_uu _ _ _ _ _
      have el2 : up2 hl 0 19 x 0 19 = x := rfl
      rw [el, el2]
      rw [el2] at h1
      refine wq_iinc (ls' := [_, _, _, _, _]) q115_28 rfl rfl ?_
      refine wq_goto q115_31 ?_
      rw [nI_1]
      obtain ⟨hf, hw, hlw, hfk, hsk, hac, hd1, hd2⟩ := hk
      have hfl : FLs f lw hi hi' := FLs_of hf hw h1.2.2.2.2 (by decide)
      refine ih (k + 1) hi' _ ((nx + 1) % 40) (min (kp + 1) 40) (dy + 1) (by omega) ⟨hf, hw.moved hfl, hlw.moved (h1.2.2.2.2 0 (by decide)), hfk.moved hfl, h2.si, ⟨?_, Nat.mod_lt _ (by decide), ?_, by omega⟩, h3, by omega⟩ h2 (by omega) (fun hi2 x2 h4 => hQ hi2 x2 ⟨hi', nx, kp, dy, hac, hd1, h1, h4⟩)
      · rw [h1.2.2.1]; rfl
      · rw [h1.2.2.1]; rfl
theorem c_years {ev wi nx kp dy : Nat} {x : Int32} {sd : Int64} (hk : OwK hi f lw sz n ev wi nx kp dy (sOf (hi 39))) (hsit : Sit (hi 39) n) (h0 : spB hi f x = false → Q (some (.int (-1))) (HP hi hl f dr t))
    (h1 : ∀ N, x = nI N → N ≤ 60 → spB hi f x = true → ∀ hi' x', YrR f lw sz n ev wi N hi sd hi' x' → Q (some (.int (hi' 39 32))) (HP hi' (up2 hl 0 19 x') f dr t)) : Ct G (0, 0) (d + 8) 115 [.ref 0, .int x, .long sd] (HP hi hl f dr t) Q := by
  refine Ct_of (ls := [_, _, _, _, _]) m_115.1.2.2.1 (Nat.le_of_ble_eq_true rfl) rfl ?_
  refine wq_aload_n q115_0 rfl ?_
  refine wq_iload_n q115_1 rfl ?_
  refine cV (As := [_]) q115_2 m_119 rfl rfl rfl ⟨by decide, rfl⟩ rfl (c_canSpend hk.1 ?_)
  refine wq_if_ne q115_5 (fun c5 => ?_) (fun c5 => ?_)
  · have c := i10 c5
    have c' := c
    simp [spB] at c'
    obtain ⟨⟨⟨g1, g2⟩, g3⟩, g4⟩ := c'
    obtain ⟨N, hN, rfl⟩ : ∃ N, N ≤ 60 ∧ x = nI N := by
      have hx0 : ¬ x < 0 := fun z => absurd (Int32.lt_of_le_of_lt g2 z) (by decide)
      exact nI_of2 (M := 60) (by decide) hx0 g3
    have h32 := hk.2.2.2.2.2.2.1
    have hdy := hk.2.2.2.2.2.2.2
    rw [h32, nI_add, show (9999 : Int32) = nI 9999 from rfl, nI_leI (by omega) (by omega)] at g4
    refine wq_aload_n q115_10 rfl ?_
    refine wq_lload_n q115_11 rfl ?_
    refine wq_putL q115_12 rfl rfl ?_
    refine wq_iconst q115_15 ?_
    refine wq_istore (ls' := [_, _, _, _, _]) q115_16 rfl ?_
    exact c_years_loop hN N 0 hi sd nx kp dy (by omega) hk hsit (by omega) (fun hi' x' h => h1 N rfl hN c hi' x' h)
  · have c := i01 c5
    refine wq_iconst q115_8 ?_
    refine rI q115_9 rfl ?_
    exact h0 c
end YEARS
