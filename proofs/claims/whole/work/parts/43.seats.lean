/-! THE CLASS: seats, bread, what is gained -/
theorem arrV_congr (c : ClassId) {n : Nat} {f g : Nat → Value} (h : ∀ j, j < n → f j = g j) : arrV c n f = arrV c n g := by
  unfold arrV
  congr 1
  apply Array.ext
  · simp
  · intro i h1 h2
    simp at h1
    simp [h i h1]
/-- beyond a row's length nothing is said -/
theorem ph_Wd_ext {G : ph_G} {h : ph_H} {r n : Nat} {F F' : Nat → Int32} {H : Heap} (hs : (hS h)[r]? = some (100, n)) (he : ∀ j, j < n → F j = F' j) (hw : ph_Wd G (stC h r F) H) : ph_Wd G (stC h r F') H := by
  refine ⟨?_, hw.2.1, hw.2.2⟩
  intro k q hk
  have e1 := ph_setC (G := G) (h := h) (f := F) hs
  have e2 := ph_setC (G := G) (h := h) (f := F') hs
  have hl := (List.getElem?_eq_some_iff.mp (ph_at (G := G) hs)).1
  have hP := hw.1
  rw [← e1] at hP
  rw [← e2] at hk
  by_cases hkr : k = r
  · subst hkr
    have h1 := hP k (gB G + k, .inl (gA G 100, n, .inl F)) (List.getElem?_set_self hl)
    rw [List.getElem?_set_self hl] at hk
    cases hk
    show H[gB G + k]? = some (vp_cell _ _)
    rw [show H[gB G + k]? = some (vp_cell (gA G 100) (n, .inl F)) from h1]
    rw [vp_cell_i, vp_cell_i, arrV_congr (gA G 100) (fun j hj => by rw [he j hj])]
  · rw [List.getElem?_set_ne (Ne.symm hkr)] at hk
    exact hP k q (by rw [List.getElem?_set_ne (Ne.symm hkr)]; exact hk)
theorem wq_ext {G : ph_G} {B u : Nat × Nat} {d k pc r n : Nat} {ls : List (Option Value)} {st : List Value} {h : ph_H} {Q : Option Value → ph_H → Prop} {F F' : Nat → Int32} (hs : (hS h)[r]? = some (100, n)) (he : ∀ j, j < n → F j = F' j) (kk : wq G B d k pc ls st u (stC h r F') Q) : wq G B d k pc ls st u (stC h r F) Q := by
  intro p e R s m args below meth c H locs Ls hC hW hS' hL
  exact kk p e R s m args below meth c H locs Ls hC (ph_Wd_ext hs he hW) hS' hL
theorem cpy_all {f g : Nat → Int32} {n j : Nat} (h : j < n) : va_cpy f g 0 0 n j = f j := by
  rw [pk_cpy_in (by omega) (by omega)]
  simp
/-- whose number stands in a cell -/
def sOf (row : Nat → Int32) (c : Nat) : Nat := (row c).toNatClampNeg
def Sit (row : Nat → Int32) (n : Nat) : Prop := ∀ c, c < n → ∃ k, k < 7 ∧ row c = nI k
theorem Sit.si {row : Nat → Int32} {n : Nat} (h : Sit row n) : SiK row n (sOf row) := fun c hc => by
  obtain ⟨k, hk, e⟩ := h c hc
  unfold sOf
  rw [e, nI_clamp (by omega)]
  exact ⟨rfl, hk⟩
theorem Sit.sw {row : Nat → Int32} {n p q : Nat} (h : Sit row n) (hp : p < 7) (hq : q < 7) : Sit (swR row n (nI p) (nI q)) n := fun c hc => by
  unfold swR
  by_cases h1 : c = ceOf row (nI q) (n - 1) 0
  · exact ⟨p, hp, by rw [← h1, vu_s]⟩
  · rw [vu_o _ _ h1]
    by_cases h2 : c = ceOf row (nI p) (n - 1) 0
    · exact ⟨q, hq, by rw [← h2, vu_s]⟩
    · rw [vu_o _ _ h2]
      exact h c hc
/-- what the teller gets for all that is seen -/
def gnV (hi : Nat → Nat → Int32) (f : Nat) (lw : Option Nat) (sz n ev wi : Nat) (cost : Int32) (row : Nat → Int32) : Int32 := (tellR hi f lw sz n ev (sOf row) wi cost true row).1 (7 + sOf row wi) - row (7 + sOf row wi)
def scr1 : List Nat := 52 :: 41 :: scr0
theorem FLs1 {f sz : Nat} {lw : Option Nat} {hi hi' : Nat → Nat → Int32} (hf : Fok f) (hw : Lawk hi lw sz) (h : Same scr1 hi hi') : FLs f lw hi hi' := FLs_of hf hw h (by decide)
section SEATS
variable {G : ph_G} {d a r n f dr t sz : Nat} {hi : Nat → Nat → Int32} {hl : Nat → Nat → Int64} {Q : Option Value → ph_H → Prop} {lw : Option Nat}
theorem c_scopy2 {h : ph_H} {a2 r2 : Nat} (hs : Scn h a r) (hs2 : Scn h a2 r2) (hQ : Q none (stC h r (hI h r2))) : Ct G (0, 0) (d + 1) 55 [.ref a, .ref a2] h Q := by
  obtain ⟨s1, s2, s3, s4⟩ := hs
  obtain ⟨t1, t2, t3, t4⟩ := hs2
  refine Ct_of (ls := [_, _]) m_55.1.2.2.1 (Nat.le_of_ble_eq_true rfl) rfl ?_
  refine wq_aload_n q55_0 rfl ?_
  refine wq_getR q55_1 (by first | exact t1 | exact t2 | exact s1 | exact s2 | rfl) rfl (by first | exact t1 | exact t2 | exact s1 | exact s2 | rfl) ?_
  refine wq_iconst q55_4 ?_
  refine wq_aload_n q55_5 rfl ?_
  refine wq_getR q55_6 (by first | exact t1 | exact t2 | exact s1 | exact s2 | rfl) rfl (by first | exact t1 | exact t2 | exact s1 | exact s2 | rfl) ?_
  refine wq_iconst q55_9 ?_
  refine wq_bipush q55_10 ?_
  refine wq_copy q55_12 t3 s3 (by decide) (by decide) (by decide) (by decide) (by decide) s4 ⟨Nat.le.refl, Nat.le.refl, Nat.le_of_ble_eq_true rfl⟩ ?_
  refine wq_ext (F' := hI h r2) s3 (fun j hj => cpy_all hj) ?_
  refine rV q55_15 ?_
  exact hQ
theorem c_gainApart {ev wi : Nat} {cost : Int32} (hf : Fok f) (hw : Lawk hi lw sz) (hlw : LwN hi lw) (hk : FoK hi f n ev wi) (hsit : Sit (hi 41) n)
    (hQ : ∀ hi', Same scr1 hi hi' → Q (some (.int (gnV hi f lw sz n ev wi cost (hi 41)))) (HP hi' hl f dr t)) : Ct G (0, 0) (d + 6) 145 [.ref 0, .int cost] (HP hi hl f dr t) Q := by
  obtain ⟨hn, hn1, hev, hwi, hc, hc4, hc0⟩ := hk
  have hs : Sok 40 41 := Or.inr (Or.inl ⟨rfl, rfl⟩)
  obtain ⟨f1, -⟩ := hf.frt hi hl f dr t
  have ew : hI (HP hi hl f dr t) (f + 1) 0 = nI wi := hc0
  have hsk := hsit.si
  have et : hI (HP hi hl f dr t) 41 wi = nI (sOf (hi 41) wi) := (hsk wi hwi).1
  have hte := (hsk wi hwi).2
  have after : ∀ hi2 : Nat → Nat → Int32, taI hi 41 n (sOf (hi 41)) (taR hi f lw sz n (sOf (hi 41)) wi (sOf (hi 41) wi) cost true ev 0 (fun i => if i < 7 then 0 else hi 52 i, hi 41, 0)) hi2 → ∀ x, wq G (0, 0) (d + 6) 145 52 [some (.ref 0), some (.int cost), some (.int (nI (7 + sOf (hi 41) wi))), some (.int (hi 41 (7 + sOf (hi 41) wi)))] [.int x] (0, 0) (HP hi2 hl f dr t) Q := by
    intro hi2 hI2 x
    have e : hI (HP hi2 hl f dr t) 41 = (tellR hi f lw sz n ev (sOf (hi 41)) wi cost true (hi 41)).1 := by
      show hi2 41 = _
      rw [hI2.2.2.1, taR_2 ev 0 _ (fun _ => 0)]
      rfl
    refine wq_pop q145_52 rfl ?_
    refine wq_aload_n q145_53 rfl ?_
    refine wq_getR q145_54 rfl rfl rfl ?_
    refine wq_getR q145_57 rfl rfl rfl ?_
    refine wq_iload_n q145_60 rfl ?_
    refine aI q145_61 rfl (rfl) (by show 7 + sOf (hi 41) wi < 33; omega) (by first | decide | omega) ?_
    refine wq_iload_n q145_62 rfl ?_
    refine wq_isub q145_63 ?_
    refine rI q145_64 rfl ?_
    rw [e]
    exact hQ hi2 hI2.1
  refine Ct_of (ls := [_, _, _, _]) m_145.1.2.2.1 (Nat.le_of_ble_eq_true rfl) rfl ?_
  refine wq_bipush q145_0 ?_
  refine wq_aload_n q145_2 rfl ?_
  refine wq_getR q145_3 (by first | exact f1 | rfl) rfl (by first | exact f1 | rfl) ?_
  refine wq_getR q145_6 (by first | exact f1 | rfl) rfl (by first | exact f1 | rfl) ?_
  refine wq_iconst q145_9 ?_
  refine wq_aload_n q145_10 rfl ?_
  refine wq_getR q145_11 (by first | exact f1 | rfl) rfl (by first | exact f1 | rfl) ?_
  refine cV (As := []) q145_14 m_16 rfl rfl (by first | exact f1 | rfl) ⟨by decide, rfl⟩ rfl (c_window (by exact hf.frt hi hl f dr t) ?_)
  rw [ew]
  refine wq_iadd q145_17 ?_
  refine aI q145_18 rfl ((by rw [show (0 : Int32) = nI 0 from rfl, nI_add, Nat.zero_add])) (by show wi < 33; omega) (by first | decide | omega) ?_
  rw [et]
  refine wq_iadd q145_19 ?_
  rw [show (7 : Int32) + nI (sOf (hi 41) wi) = nI (7 + sOf (hi 41) wi) from nI_add 7 _]
  refine wq_istore_n (ls' := [_, _, _, _]) q145_20 rfl ?_
  refine wq_aload_n q145_21 rfl ?_
  refine wq_getR q145_22 rfl rfl rfl ?_
  refine wq_getR q145_25 rfl rfl rfl ?_
  refine wq_iload_n q145_28 rfl ?_
  refine aI q145_29 rfl (rfl) (by show 7 + sOf (hi 41) wi < 33; omega) (by first | decide | omega) ?_
  refine wq_istore_n (ls' := [_, _, _, _]) q145_30 rfl ?_
  refine wq_aload_n q145_31 rfl ?_
  refine wq_getR q145_32 rfl rfl rfl ?_
  refine wq_aload_n q145_35 rfl ?_
  refine wq_getR q145_36 rfl rfl rfl ?_
  refine wq_aload_n q145_39 rfl ?_
  refine wq_getR q145_40 rfl rfl rfl ?_
  cases hlw' : lw with
  | none =>
    subst hlw'
    refine wq_aload_n q145_43 rfl ?_
    refine cV (As := []) q145_44 m_108 rfl rfl rfl ⟨by decide, rfl⟩ rfl (c_lawNow hlw ?_)
    refine wq_iload_n q145_47 rfl ?_
    refine wq_iconst q145_48 ?_
    refine cV (As := [_, _, _, _, _]) q145_49 m_31 rfl rfl rfl ⟨by decide, rfl⟩ rfl (c_tellAll (lw := none) (hold := true) (s := sOf (hi 41)) hf hs hw hn hev hwi hc hc4 hc0 hsk (fun hi2 hI2 => ?_))
    exact after hi2 hI2 _
  | some la =>
    subst hlw'
    refine wq_aload_n q145_43 rfl ?_
    refine cV (As := []) q145_44 m_108 rfl rfl rfl ⟨by decide, rfl⟩ rfl (c_lawNow hlw ?_)
    refine wq_iload_n q145_47 rfl ?_
    refine wq_iconst q145_48 ?_
    refine cV (As := [_, _, _, _, _]) q145_49 m_31 rfl rfl rfl ⟨by decide, rfl⟩ rfl (c_tellAll (lw := some la) (hold := true) (s := sOf (hi 41)) hf hs hw hn hev hwi hc hc4 hc0 hsk (fun hi2 hI2 => ?_))
    exact after hi2 hI2 _
theorem gnV_congr {hi' : Nat → Nat → Int32} {ev wi : Nat} {cost : Int32} {row : Nat → Int32} (h : FLs f lw hi hi') : gnV hi' f lw sz n ev wi cost row = gnV hi f lw sz n ev wi cost row := by
  unfold gnV tellR
  rw [taR_congr h]
/-- what a prisoner would get at the window -/
def seV (hi : Nat → Nat → Int32) (f : Nat) (lw : Option Nat) (sz n ev wi : Nat) (p : Nat) : Int32 := gnV hi f lw sz n ev wi (hi (f + 1) 3) (swR (hi 39) n (hi 39 wi) (nI p))
theorem c_seatOf {ev wi p : Nat} (hf : Fok f) (hw : Lawk hi lw sz) (hlw : LwN hi lw) (hk : FoK hi f n ev wi) (hsit : Sit (hi 39) n) (hp : p < 7)
    (hQ : ∀ hi', Same scr1 hi hi' → Q (some (.int (seV hi f lw sz n ev wi p))) (HP hi' hl f dr t)) : Ct G (0, 0) (d + 7) 144 [.ref 0, .int (nI p)] (HP hi hl f dr t) Q := by
  have hk' := hk
  obtain ⟨hn, hn1, hev, hwi, hc, hc4, hc0⟩ := hk
  have hs : Sok 38 39 := Or.inl ⟨rfl, rfl⟩
  have hs2 : Sok 40 41 := Or.inr (Or.inl ⟨rfl, rfl⟩)
  obtain ⟨f1, -⟩ := hf.frt hi hl f dr t
  obtain ⟨k, hk7, hkt⟩ := hsit wi hwi
  have hne : ∀ b, (b = f ∨ b = f + 1 ∨ b = f + 2 ∨ b = f + 3) → b ≠ 41 := by
    rcases hf with rfl | rfl <;> rintro b (rfl | rfl | rfl | rfl) <;> decide
  have ec : ∀ F, hI (HP (upC hi 41 F) hl f dr t) f 3 = nI n := fun F => by show upC hi 41 F f 3 = _; rw [upC_o _ _ (hne f (Or.inl rfl))]; exact hc
  refine Ct_of (ls := [_, _]) m_144.1.2.2.1 (Nat.le_of_ble_eq_true rfl) rfl ?_
  refine wq_aload_n q144_0 rfl ?_
  refine wq_getR q144_1 rfl rfl rfl ?_
  refine wq_aload_n q144_4 rfl ?_
  refine wq_getR q144_5 rfl rfl rfl ?_
  refine cV (As := [_]) q144_8 m_55 rfl rfl rfl ⟨by decide, rfl⟩ rfl (c_scopy2 (hs2.scn _ _ _ _ _) (hs.scn _ _ _ _ _) ?_)
  rw [hpC]
  refine wq_aload_n q144_11 rfl ?_
  refine wq_getR q144_12 (by first | exact f1 | rfl) rfl (by first | exact f1 | rfl) ?_
  refine wq_aload_n q144_15 rfl ?_
  refine cV (As := []) q144_16 m_106 rfl rfl (by first | exact f1 | rfl) ⟨by decide, rfl⟩ rfl (c_teller (wi := wi) hf (by omega) (by rw [upC_o _ _ (hne _ (Or.inr (Or.inl rfl)))]; exact hc0) ?_)
  refine wq_iload_n q144_19 rfl ?_
  refine wq_aload_n q144_20 rfl ?_
  refine wq_getR q144_21 (by first | exact f1 | rfl) rfl (by first | exact f1 | rfl) ?_
  refine wq_getI q144_24 (by first | exact f1 | rfl) rfl ?_
  rw [ec]
  refine cV (As := [_, _, _]) q144_27 m_58 rfl rfl rfl ⟨by decide, rfl⟩ rfl (c_swapCells (hs2.scn _ _ _ _ _) hn hn1 ?_)
  have e1 : hI (HP (upC hi 41 (hI (HP hi hl f dr t) 39)) hl f dr t) 41 = hi 39 := rfl
  have e2 : upC hi 41 (hI (HP hi hl f dr t) 39) 39 wi = hi 39 wi := rfl
  rw [e1, e2, hpC, upC_C]
  have hS1 : Same scr1 hi (upC hi 41 (swR (hi 39) n (hi 39 wi) (nI p))) := upS _ (by decide)
  have hfl := FLs1 hf hw hS1
  refine wq_aload_n q144_30 rfl ?_
  refine wq_aload_n q144_31 rfl ?_
  refine wq_getR q144_32 (by first | exact f1 | rfl) rfl (by first | exact f1 | rfl) ?_
  refine cV (As := []) q144_35 m_19 rfl rfl (by first | exact f1 | rfl) ⟨by decide, rfl⟩ rfl (c_cost (by exact hf.frt _ hl f dr t) ?_)
  have e3 : hI (HP (upC hi 41 (swR (hi 39) n (hi 39 wi) (nI p))) hl f dr t) (f + 1) 3 = hi (f + 1) 3 := by show upC hi 41 _ (f + 1) 3 = _; rw [upC_o _ _ (hne _ (Or.inr (Or.inl rfl)))]
  rw [e3]
  refine cV (As := [_]) q144_38 m_145 rfl rfl rfl ⟨by decide, rfl⟩ rfl (c_gainApart hf (hw.moved hfl) (hlw.moved (hS1 0 (by decide))) (hk'.moved hfl) (by rw [upC_s, hkt]; exact hsit.sw hk7 hp) (fun hi' h' => ?_))
  refine rI q144_41 rfl ?_
  rw [upC_s, gnV_congr hfl]
  exact hQ hi' (hS1.tr h')
theorem c_seat {ev wi : Nat} {x : Int32} (hf : Fok f) (hw : Lawk hi lw sz) (hlw : LwN hi lw) (hk : FoK hi f n ev wi) (hsit : Sit (hi 39) n) (h0 : inB x (hi f 3) = false → Q (some (.int (-1))) (HP hi hl f dr t))
    (h1 : ∀ p hi', p < n → x = nI p → Same scr1 hi hi' → Q (some (.int (seV hi f lw sz n ev wi p))) (HP hi' hl f dr t)) : Ct G (0, 0) (d + 8) 138 [.ref 0, .int x] (HP hi hl f dr t) Q := by
  have hn := hk.1
  refine Ct_of (ls := [_, _]) m_138.1.2.2.1 (Nat.le_of_ble_eq_true rfl) rfl ?_
  refine wq_aload_n q138_0 rfl ?_
  refine wq_iload_n q138_1 rfl ?_
  refine cV (As := [_]) q138_2 m_103 rfl rfl rfl ⟨by decide, rfl⟩ rfl (c_isPrisoner hf ?_)
  refine wq_if_eq q138_5 (fun c5 => ?_) (fun c5 => ?_)
  · have c := i01 c5
    refine wq_iconst q138_16 ?_
    refine rI q138_17 rfl ?_
    exact h0 c
  · have c := i10 c5
    rw [hk.2.2.2.2.1] at c
    obtain ⟨p, hp, rfl⟩ := inB_N (m := n) (by omega) c
    refine wq_aload_n q138_8 rfl ?_
    refine wq_iload_n q138_9 rfl ?_
    refine cV (As := [_]) q138_10 m_144 rfl rfl rfl ⟨by decide, rfl⟩ rfl (c_seatOf hf hw hlw hk hsit (by omega) (fun hi' h => ?_))
    refine wq_goto q138_13 ?_
    refine rI q138_17 rfl ?_
    exact h1 p hi' hp rfl h
theorem seV_congr {hi' : Nat → Nat → Int32} {ev wi p : Nat} (h : FLs f lw hi hi') (h39 : hi' 39 = hi 39) : seV hi' f lw sz n ev wi p = seV hi f lw sz n ev wi p := by
  unfold seV
  rw [gnV_congr h, h39, h.2.1]
/-- the first of the most -/
def bsR (g : Nat → Int32) : Nat → Nat → Int32 × Int32 → Int32 × Int32
  | 0, _, x => x
  | m + 1, p, x => bsR g m (p + 1) (if x.2 < g p then (nI p, g p) else x)
theorem c_best_loop {ev wi : Nat} (hf : Fok f) (hw : Lawk hi lw sz) (hlw : LwN hi lw) (hk : FoK hi f n ev wi) (hsit : Sit (hi 39) n) : ∀ (m p : Nat) (x : Int32 × Int32) (hi' : Nat → Nat → Int32) (x4 : Option Value), p + m = n → Same scr1 hi hi' → (∀ hi2, Same scr1 hi hi2 → Q (some (.int (bsR (seV hi f lw sz n ev wi) m p x).1)) (HP hi2 hl f dr t)) →
    wq G (0, 0) (d + 8) 139 6 [some (.ref 0), some (.int x.1), some (.int x.2), some (.int (nI p)), x4] [] (0, 0) (HP hi' hl f dr t) Q := by
  have hn := hk.1
  intro m
  induction m with
  | zero =>
    intro p x hi' x4 hm hS hQ
    have hfl := FLs1 hf hw hS
    obtain ⟨f1, -⟩ := hf.frt hi' hl f dr t
    have ec : hI (HP hi' hl f dr t) f 3 = nI n := by show hi' f 3 = _; rw [hfl.1]; exact hk.2.2.2.2.1
    refine wq_iload_n q139_6 rfl ?_
    refine wq_aload_n q139_7 rfl ?_
    refine wq_getR q139_8 (by first | exact f1 | rfl) rfl (by first | exact f1 | rfl) ?_
    refine wq_getI q139_11 (by first | exact f1 | rfl) rfl ?_
    refine wq_icmp_ge q139_14 (fun c14 => ?_) (fun c14 => ?_)
    · refine wq_iload_n q139_41 rfl ?_
      refine rI q139_42 rfl ?_
      exact hQ hi' hS
    · rw [ec, nI_leI (by omega) (by omega)] at c14
      omega
  | succ m ih =>
    intro p x hi' x4 hm hS hQ
    have hfl := FLs1 hf hw hS
    obtain ⟨f1, -⟩ := hf.frt hi' hl f dr t
    have ec : hI (HP hi' hl f dr t) f 3 = nI n := by show hi' f 3 = _; rw [hfl.1]; exact hk.2.2.2.2.1
    rw [bsR] at hQ
    refine wq_iload_n q139_6 rfl ?_
    refine wq_aload_n q139_7 rfl ?_
    refine wq_getR q139_8 (by first | exact f1 | rfl) rfl (by first | exact f1 | rfl) ?_
    refine wq_getI q139_11 (by first | exact f1 | rfl) rfl ?_
    refine wq_icmp_ge q139_14 (fun c14 => ?_) (fun c14 => ?_)
    · rw [ec, nI_leI (by omega) (by omega)] at c14
      omega
    · have e39 := hS 39 (by decide)
      refine wq_aload_n q139_17 rfl ?_
      refine wq_iload_n q139_18 rfl ?_
      refine cV (As := [_]) q139_19 m_144 rfl rfl rfl ⟨by decide, rfl⟩ rfl (c_seatOf hf (hw.moved hfl) (hlw.moved (hS 0 (by decide))) (hk.moved hfl) (by rw [e39]; exact hsit) (by omega) (fun hi2 h2 => ?_))
      rw [seV_congr hfl e39]
      refine wq_istore (ls' := [_, _, _, _, _]) q139_22 rfl ?_
      refine wq_iload q139_24 rfl ?_
      refine wq_iload_n q139_26 rfl ?_
      refine wq_icmp_le q139_27 (fun c27 => ?_) (fun c27 => ?_)
      · rw [if_neg (Int32.not_lt.mpr c27)] at hQ
        refine wq_iinc (ls' := [_, _, _, _, _]) q139_35 rfl rfl ?_
        refine wq_goto q139_38 ?_
        rw [nI_1]
        exact ih (p + 1) x hi2 _ (by omega) (hS.tr h2) hQ
      · rw [if_pos (Int32.not_le.mp c27)] at hQ
        refine wq_iload_n q139_30 rfl ?_
        refine wq_istore_n (ls' := [_, _, _, _, _]) q139_31 rfl ?_
        refine wq_iload q139_32 rfl ?_
        refine wq_istore_n (ls' := [_, _, _, _, _]) q139_34 rfl ?_
        refine wq_iinc (ls' := [_, _, _, _, _]) q139_35 rfl rfl ?_
        refine wq_goto q139_38 ?_
        rw [nI_1]
        exact ih (p + 1) (nI p, seV hi f lw sz n ev wi p) hi2 _ (by omega) (hS.tr h2) hQ
theorem c_best {ev wi : Nat} (hf : Fok f) (hw : Lawk hi lw sz) (hlw : LwN hi lw) (hk : FoK hi f n ev wi) (hsit : Sit (hi 39) n)
    (h1 : ∀ hi', Same scr1 hi hi' → Q (some (.int (bsR (seV hi f lw sz n ev wi) n 0 (-1, -1)).1)) (HP hi' hl f dr t)) : Ct G (0, 0) (d + 8) 139 [.ref 0] (HP hi hl f dr t) Q := by
  refine Ct_of (ls := [_, _, _, _, _]) m_139.1.2.2.1 (Nat.le_of_ble_eq_true rfl) rfl ?_
  refine wq_iconst q139_0 ?_
  refine wq_istore_n (ls' := [_, _, _, _, _]) q139_1 rfl ?_
  refine wq_iconst q139_2 ?_
  refine wq_istore_n (ls' := [_, _, _, _, _]) q139_3 rfl ?_
  refine wq_iconst q139_4 ?_
  refine wq_istore_n (ls' := [_, _, _, _, _]) q139_5 rfl ?_
  exact c_best_loop hf hw hlw hk hsit n 0 (-1, -1) hi none (by omega) Same.rf h1
end SEATS
