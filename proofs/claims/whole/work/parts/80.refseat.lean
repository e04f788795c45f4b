/-! THE REFERENCE: seats -/
theorem RW.ext {n : Nat} {row w w' : Nat → Int32} (h : RW n row w) (hn : n ≤ 7) (he : ∀ j, j < 33 → w' j = w j) : RW n row w' :=
  h.scal hn (fun _ _ => rfl) (fun j hj _ => he j (by omega)) ((he 28 (by decide)).trans h.2.2.2.2.1) ((he 29 (by decide)).trans h.2.2.2.2.2.1) ((he 30 (by decide)).trans h.2.2.2.2.2.2.1) ((he 31 (by decide)).trans h.2.2.2.2.2.2.2.1) ((he 32 (by decide)).trans h.2.2.2.2.2.2.2.2)
theorem KN.ext {n : Nat} {row w w' : Nat → Int32} (h : KN n row w) (hn : n ≤ 7) (he : ∀ j, j < 33 → w' j = w j) : KN n row w' := fun p hp => (he _ (by omega)).trans (h p hp)
theorem RNw.rs {hi hi' : Nat → Nat → Int32} (h : RNw 72 hi hi') : RS hi hi' := by
  have hm : ∀ k, k ∈ gtF → k ∈ rsK := by decide
  refine ⟨fun a ha => h.1 a (fun z => ha (by rw [z]; decide)) (fun z => ha (by rw [z]; decide)) (fun z => ha (by rw [z]; decide)) (fun z => ha (by rw [z]; decide)), fun k hk => h.2 k (fun z => hk (hm k z)), fun j _ => by rw [h.1 69 (by decide) (by decide) (by decide) (by decide)], fun j _ => by rw [h.1 70 (by decide) (by decide) (by decide) (by decide)]⟩
theorem RN.rs {hi hi' : Nat → Nat → Int32} (h : RN hi hi') : RS hi hi' := (RN.w' (r := 72) h).rs
theorem RS.fl {hi hi' : Nat → Nat → Int32} {f : Nat} {lw : Option Nat} {sz n ev wi : Nat} (h : RS hi hi') (hF : RF hi f lw sz n ev wi) : FLs f lw hi hi' := by
  have hm : ∀ a, a ∈ rsC → 58 ≤ a := by decide
  have hA : ∀ a, a < 58 → hi' a = hi a := fun a ha => h.1 a (fun z => by have := hm a z; omega)
  have hf' : f = 3 ∨ f = 7 := hF.1
  refine ⟨hA _ (by omega), hA _ (by omega), hA _ (by omega), hA _ (by omega), fun a ha => ?_⟩
  rcases hF.2.2.2.2 with ⟨e1, -⟩ | ⟨k, L, b, p, l, sg, e1, e2, -⟩
  · rw [e1] at ha; cases ha
  · rw [e1] at ha
    cases ha
    exact ⟨hA _ (by omega), hA _ (by omega)⟩
theorem RS.mv {hi hi' : Nat → Nat → Int32} {f : Nat} {lw : Option Nat} {sz n ev wi : Nat} (h : RS hi hi') (hF : RF hi f lw sz n ev wi) : RF hi' f lw sz n ev wi :=
  hF.mv (h.fl hF) (h.1 60 (by decide)) (h.1 61 (by decide)) (h.1 63 (by decide)) (h.1 65 (by decide)) (h.1 67 (by decide)) (h.2.1 26 (by decide)) (h.2.1 27 (by decide)) (h.2.1 34 (by decide))
section REFSEAT
variable {G : ph_G} {d f dr t n r ev wi sz lg : Nat} {hi hi' : Nat → Nat → Int32} {hl : Nat → Nat → Int64} {Q : Option Value → ph_H → Prop} {row : Nat → Int32} {lw : Option Nat}
/-- the events of a seat -/
theorem c_rseat_loop {te : Nat} {price was : Int32} {T : taX} (hF : RF hi f lw sz n ev wi) (hr : Wok r) (hte : te = sOf row wi) (hsit : ∀ c, c < n → sOf row c < n)
    (K : ∀ hi' t' x5 x6, RNw r hi hi' → RW n T.2.1 (hi' r) → wq G (0, 0) (d + 36) 256 56 [some (.ref 58), some (.ref r), some (.int price), some (.int (nI te)), some (.int was), x5, x6] [] (0, 0) (HP hi' hl f dr t') Q) :
    ∀ (m v : Nat) (x : taX) (hi' : Nat → Nat → Int32) (t' : Nat) (x6 : Option Value), v + m = ev → RNw r hi hi' → RW n x.2.1 (hi' r) → (∀ j, j < 7 → x.2.1 j = row j) → taR hi f lw sz n (sOf row) wi te price true m v x = T →
    wq G (0, 0) (d + 36) 256 18 [some (.ref 58), some (.ref r), some (.int price), some (.int (nI te)), some (.int was), some (.int (nI v)), x6] [] (0, 0) (HP hi' hl f dr t') Q := by
  obtain ⟨hf, ⟨hn, hn1, hev, hwi, hc, hc4, hc0⟩, ⟨g1, g2, g3, g4, g5⟩, hFB, hlw⟩ := hF
  have hF : RF hi f lw sz n ev wi := ⟨hf, ⟨hn, hn1, hev, hwi, hc, hc4, hc0⟩, ⟨g1, g2, g3, g4, g5⟩, hFB, hlw⟩
  have hten : te < n := by rw [hte]; exact hsit wi hwi
  intro m
  induction m with
  | zero =>
    intro v x hi' t' x6 hm hN hw hx hT
    obtain rfl : v = ev := by omega
    rw [taR] at hT
    subst hT
    have ec : hI (HP hi' hl f dr t') 58 27 = nI v := (hN.2 27 (by decide)).trans g2
    refine wq_iload q256_18 rfl ?_
    refine wq_aload_n q256_20 rfl ?_
    refine wq_getI q256_21 rfl rfl ?_
    refine wq_icmp_ge q256_24 (fun c24 => ?_) (fun c24 => ?_)
    · exact K hi' t' _ _ hN hw
    · rw [ec] at c24
      exact absurd (nI_le (Nat.le_refl _) (by omega)) c24
  | succ m ih =>
    intro v x hi' t' x6 hm hN hw hx hT
    have ec : hI (HP hi' hl f dr t') 58 27 = nI ev := (hN.2 27 (by decide)).trans g2
    have hF' := hN.mv hr hF
    have hfl := hN.fl hr hF
    have h63 : hi' 63 0 = nI wi := (hF'.2.2.1.2.2.1 0 (by decide)).trans hF'.2.1.2.2.2.2.2.2
    have hsx : ∀ c, c < n → sOf x.2.1 c = sOf row c := fun c hc => by unfold sOf; rw [hx c (by omega)]
    have hstx : sOf x.2.1 wi = te := by rw [hsx wi hwi, hte]
    have e65 : hi' 65 (sOf x.2.1 wi * 5 + 3) = hi (f + 2) (te * 5 + 3) := by
      rw [hstx, hF'.2.2.1.2.2.2.1 _ (by omega), hfl.2.2.1]
    have e28 : hi' r 28 = x.2.1 28 := hw.2.2.2.2.1
    have hse : hsB (x.2.1 28) (nI v) = seB x.2.1 v := rfl
    rw [taR] at hT
    refine wq_iload q256_18 rfl ?_
    refine wq_aload_n q256_20 rfl ?_
    refine wq_getI q256_21 rfl rfl ?_
    refine wq_icmp_ge q256_24 (fun c24 => ?_) (fun c24 => ?_)
    · rw [ec, nI_leI (by omega) (by omega)] at c24
      omega
    · refine wq_aload_n q256_27 rfl ?_
      refine wq_aload_n q256_28 rfl ?_
      refine wq_iload q256_29 rfl ?_
      refine cV (As := [_, _]) q256_31 m_219 rfl rfl rfl ⟨by decide, rfl⟩ rfl (c_risToldBy (d := d + 33) hr hn hF'.2.2.1.1 h63 hw hwi ?_)
      refine wq_if_ne q256_34 (fun c34 => ?_) (fun c34 => ?_)
      · have c := p10 c34
        rw [e28, e65, hse] at c
        have hl0 : ¬ lvO hi f te = nI v := fun z => c.2 ((lv_eq (n := n) hc4 hev (by omega)).mp z)
        have hto : toB hi f te true v x.2.1 = true := by
          unfold toB
          rw [c.1, decide_eq_false hl0]
          rfl
        obtain ⟨B, hB⟩ : ∃ B, B = hrR (spV hi f lw sz v x.2.1 (sOf row) wi) x.2.1 wi n 0 0 := ⟨_, rfl⟩
        have eT := taS_eq (cost := price) hto hB
        rw [eT] at hT
        refine wq_aload_n q256_40 rfl ?_
        refine wq_aload_n q256_41 rfl ?_
        refine wq_iload q256_42 rfl ?_
        refine wq_iload_n q256_44 rfl ?_
        refine cV (As := [_, _, _]) q256_45 m_218 rfl rfl rfl ⟨by decide, rfl⟩ rfl (c_rone (d := d) (B := B) (x1 := x.1) hF' hr hw (by omega) (by rw [hB]; exact (B_eq hfl hsx hwi).symm) (fun hi2 t2 hN2 hw2 hk2 h332 => ?_))
        rw [hstx, hfl.2.2.2.1] at hw2
        refine wq_istore (ls' := [_, _, _, _, _, _, _]) q256_48 rfl ?_
        refine wq_iinc (ls' := [_, _, _, _, _, _, _]) q256_50 rfl rfl ?_
        refine wq_goto q256_53 ?_
        rw [nI_1]
        refine ih (v + 1) _ hi2 t2 _ (by omega) (hN.tr hN2) hw2 (fun j hj => ?_) hT
        have hkeep := taS_keep (hi := hi) (f := f) (lw := lw) (sz := sz) (n := n) (wi := wi) (te := te) (v := v) (cost := price) (hold := true) (s := sOf row) (x := x) (j := j) (show te < 7 by omega) (by omega)
        rw [eT] at hkeep
        exact hkeep.trans (hx j hj)
      · have c := p01 c34
        rw [e28, e65, hse] at c
        have hno : toB hi f te true v x.2.1 = false := by
          unfold toB
          by_cases z : seB x.2.1 v = true
          · have : lvO hi f te = nI v := (lv_eq (n := n) hc4 hev (by omega)).mpr (Decidable.byContradiction (fun q => c ⟨z, q⟩))
            rw [this]
            simp
          · simp [z]
        have e : taS hi f lw sz n (sOf row) wi te price true v x = x := by unfold taS; rw [if_neg (by rw [hno]; decide)]
        rw [e] at hT
        refine wq_goto q256_37 ?_
        refine wq_iinc (ls' := [_, _, _, _, _, _, _]) q256_50 rfl rfl ?_
        refine wq_goto q256_53 ?_
        rw [nI_1]
        exact ih (v + 1) x hi' t' _ (by omega) hN hw hx hT
/-- what the teller of a row gets -/
theorem c_rseatOf {price : Int32} (hF : RF hi f lw sz n ev wi) (hr : Wok r) (hw : RW n row (hi r)) (hQ : ∀ hi' t', RNw r hi hi' → Q (some (.int (gnV hi f lw sz n ev wi price row))) (HP hi' hl f dr t')) :
    Ct G (0, 0) (d + 36) 256 [.ref 58, .ref r, .int price] (HP hi hl f dr t) Q := by
  have hn := hF.2.1.1
  have hwi := hF.2.1.2.2.2.1
  obtain ⟨hs, -⟩ := hr.sh hi hl f dr t
  obtain ⟨s1, s2, s3⟩ := hw.s hn hwi
  obtain ⟨T, hT⟩ : ∃ T, taR hi f lw sz n (sOf row) wi (sOf row wi) price true ev 0 (fun _ => 0, row, 0) = T := ⟨_, rfl⟩
  have eg : gnV hi f lw sz n ev wi price row = T.2.1 (7 + sOf row wi) - row (7 + sOf row wi) := by unfold gnV tellR; rw [hT]
  rw [eg] at hQ
  have ew : hI (HP hi hl f dr t) r (4 * sOf row wi + 1) = row (7 + sOf row wi) := hw.2.2.1 _ s1
  refine Ct_of (ls := [_, _, _, _, _, _, _]) m_256.1.2.2.1 (Nat.le_of_ble_eq_true rfl) rfl ?_
  refine wq_aload_n q256_0 rfl ?_
  refine wq_aload_n q256_1 rfl ?_
  refine cV (As := [_]) q256_2 m_213 rfl rfl rfl ⟨by decide, rfl⟩ rfl (c_rteller hr hn hF.2.2.1.1 ((hF.2.2.1.2.2.1 0 (by decide)).trans hF.2.1.2.2.2.2.2.2) hw hwi ?_)
  rw [s2]
  refine wq_istore_n (ls' := [_, _, _, _, _, _, _]) q256_5 rfl ?_
  refine wq_aload_n q256_6 rfl ?_
  refine wq_iconst q256_7 ?_
  refine wq_iload_n q256_8 rfl ?_
  refine wq_imul q256_9 ?_
  refine wq_iconst q256_10 ?_
  refine wq_iadd q256_11 ?_
  refine aI q256_12 (by first | exact hs | rfl) (ix1 _) (by show 4 * sOf row wi + 1 < 214; omega) (by first | decide | omega) ?_
  rw [ew]
  refine wq_istore (ls' := [_, _, _, _, _, _, _]) q256_13 rfl ?_
  refine wq_iconst q256_15 ?_
  refine wq_istore (ls' := [_, _, _, _, _, _, _]) q256_16 rfl ?_
  refine c_rseat_loop (T := T) hF hr rfl (fun c hc => (hw.s hn hc).1) (fun hi' t' x5 x6 hN hw' => ?_) ev 0 (fun _ => 0, row, 0) hi t _ (by omega) RNw.rf hw (fun _ _ => rfl) hT
  obtain ⟨hs2, -⟩ := hr.sh hi' hl f dr t'
  have ew2 : hI (HP hi' hl f dr t') r (4 * sOf row wi + 1) = T.2.1 (7 + sOf row wi) := hw'.2.2.1 _ s1
  refine wq_aload_n q256_56 rfl ?_
  refine wq_iconst q256_57 ?_
  refine wq_iload_n q256_58 rfl ?_
  refine wq_imul q256_59 ?_
  refine wq_iconst q256_60 ?_
  refine wq_iadd q256_61 ?_
  refine aI q256_62 (by first | exact hs2 | rfl) (ix1 _) (by show 4 * sOf row wi + 1 < 214; omega) (by first | decide | omega) ?_
  rw [ew2]
  refine wq_iload q256_63 rfl ?_
  refine wq_isub q256_65 ?_
  refine rI q256_66 rfl ?_
  exact hQ hi' t' hN
theorem rs_cp {hi : Nat → Nat → Int32} (Z : Nat → Int32) : RS hi (upC hi 72 Z) := RS.upC (by decide) (by decide) Z
theorem RNw.rs' {hi hi1 hi' : Nat → Nat → Int32} (h : RNw 72 hi1 hi') (h1 : RS hi hi1) : RS hi hi' := h1.tr h.rs
/-- what a prisoner would get at the window -/
theorem c_rseatBy {p : Nat} (hF : RF hi f lw sz n ev wi) (hw : RW n row (hi 71)) (hlg : lg ≤ 60) (h33 : hi 71 33 = nI lg) (hp : p < n) (hQ : ∀ hi' t', RS hi hi' → Q (some (.int (gnV hi f lw sz n ev wi (hi (f + 1) 3) (swR row n (row wi) (nI p))))) (HP hi' hl f dr t')) :
    Ct G (0, 0) (d + 37) 257 [.ref 58, .int (nI p)] (HP hi hl f dr t) Q := by
  have hn := hF.2.1.1
  have hwi := hF.2.1.2.2.2.1
  obtain ⟨s1, s2, s3⟩ := hw.s hn hwi
  refine Ct_of (ls := [_, _, _]) m_257.1.2.2.1 (Nat.le_of_ble_eq_true rfl) rfl ?_
  refine wq_aload_n q257_0 rfl ?_
  refine wq_getR q257_1 rfl rfl rfl ?_
  refine wq_aload_n q257_4 rfl ?_
  refine wq_getR q257_5 rfl rfl rfl ?_
  refine cS' (As := [_, _]) q257_8 m_208 rfl rfl rfl (c_rcopy (Or.inl ⟨rfl, rfl⟩) hlg h33 (fun Z hZ => ?_))
  have hF1 : RF (upC hi 72 Z) f lw sz n ev wi := (rs_cp Z).mv hF
  have hw1 : RW n row (upC hi 72 Z 72) := by rw [upC_s]; exact hw.ext hn (fun j hj => hZ j (by omega))
  have e633 : ∀ Z, hI (HP (upC hi 72 Z) hl f dr t) 63 3 = hi (f + 1) 3 := fun Z => hF.2.2.1.2.2.1 3 (by decide)
  have fin : ∀ Z, RW n (swR row n (row wi) (nI p)) (upC hi 72 Z 72) → wq G (0, 0) (d + 37) 257 34 [some (.ref 58), some (.int (nI p)), some (.int (nI (sOf row wi)))] [] (0, 0) (HP (upC hi 72 Z) hl f dr t) Q := by
    intro Z hwZ
    have hFZ : RF (upC hi 72 Z) f lw sz n ev wi := (rs_cp Z).mv hF
    refine wq_aload_n q257_34 rfl ?_
    refine wq_aload_n q257_35 rfl ?_
    refine wq_getR q257_36 rfl rfl rfl ?_
    refine wq_aload_n q257_39 rfl ?_
    refine wq_getR q257_40 rfl rfl rfl ?_
    refine wq_iconst q257_43 ?_
    refine aI q257_44 rfl ((show (3 : Int32) = nI 3 from rfl)) (by decide) (by first | decide | omega) ?_
    rw [e633]
    refine cV (As := [_, _]) q257_45 m_256 rfl rfl rfl ⟨by decide, rfl⟩ rfl (c_rseatOf (d := d) hFZ (Or.inr rfl) hwZ (fun hi' t' hN => ?_))
    refine rI q257_48 rfl ?_
    rw [gnV_congr ((rs_cp Z).fl hF)]
    exact hQ hi' t' (hN.rs' (rs_cp Z))
  refine wq_aload_n q257_11 rfl ?_
  refine wq_aload_n q257_12 rfl ?_
  refine wq_getR q257_13 rfl rfl rfl ?_
  refine cV (As := [_]) q257_16 m_213 rfl rfl rfl ⟨by decide, rfl⟩ rfl (c_rteller (Or.inr rfl) hn hF1.2.2.1.1 ((hF1.2.2.1.2.2.1 0 (by decide)).trans hF1.2.1.2.2.2.2.2.2) hw1 hwi ?_)
  rw [s2]
  refine wq_istore_n (ls' := [_, _, _]) q257_19 rfl ?_
  refine wq_iload_n q257_20 rfl ?_
  refine wq_iload_n q257_21 rfl ?_
  refine wq_icmp_eq q257_22 (fun c22 => ?_) (fun c22 => ?_)
  · rw [nI_eq (by omega) (by omega)] at c22
    refine fin Z ?_
    rw [s2, ← c22, swR_self hw hn hp]
    exact hw1
  · refine wq_aload_n q257_25 rfl ?_
    refine wq_getR q257_26 rfl rfl rfl ?_
    refine wq_iload_n q257_29 rfl ?_
    refine wq_iload_n q257_30 rfl ?_
    refine cS' (As := [_, _, _]) q257_31 m_234 rfl rfl rfl (c_changes (Or.inr rfl) (by omega) (by omega) ?_)
    rw [upC_s, upC_C]
    refine fin _ ?_
    rw [upC_s, s2, chW_comm]
    rw [upC_s] at hw1
    exact hw1.sw hn s1 hp
theorem c_rsea {x : Int32} (hF : RF hi f lw sz n ev wi) (hw : RW n row (hi 71)) (hlg : lg ≤ 60) (h33 : hi 71 33 = nI lg) (h0 : inB x (nI n) = false → Q (some (.int (-1))) (HP (up2 hi 58 0 0) hl f dr t))
    (h1 : ∀ p hi' t', p < n → x = nI p → RS hi hi' → Q (some (.int (gnV hi f lw sz n ev wi (hi (f + 1) 3) (swR row n (row wi) (nI p))))) (HP hi' hl f dr t')) :
    Ct G (0, 0) (d + 38) 258 [.ref 58, .int x] (HP hi hl f dr t) Q := by
  have hn := hF.2.1.1
  have hr0 : RS hi (up2 hi 58 0 0) := RS.upK (by decide) _
  have e26 : up2 hi 58 0 0 58 26 = nI n := hF.2.2.1.1
  refine Ct_of (ls := [_, _]) m_258.1.2.2.1 (Nat.le_of_ble_eq_true rfl) rfl ?_
  refine wq_aload_n q258_0 rfl ?_
  refine wq_iconst q258_1 ?_
  refine wq_putI q258_2 rfl rfl rfl rfl ?_
  rw [hpS]
  refine wq_aload_n q258_5 rfl ?_
  refine wq_iload_n q258_6 rfl ?_
  refine cV (As := [_]) q258_7 m_209 rfl rfl rfl ⟨by decide, rfl⟩ rfl (c_risPrisoner ?_)
  refine wq_if_eq q258_10 (fun c10 => ?_) (fun c10 => ?_)
  · have c := i01 c10
    rw [e26] at c
    refine wq_iconst q258_21 ?_
    refine rI q258_22 rfl ?_
    exact h0 c
  · have c := i10 c10
    rw [e26] at c
    obtain ⟨p, hp, rfl⟩ := inB_N (m := n) (by omega) c
    refine wq_aload_n q258_13 rfl ?_
    refine wq_iload_n q258_14 rfl ?_
    refine cV (As := [_]) q258_15 m_257 rfl rfl rfl ⟨by decide, rfl⟩ rfl (c_rseatBy (d := d) (hr0.mv hF) hw hlg h33 hp (fun hi' t' hS => ?_))
    refine wq_goto q258_18 ?_
    refine rI q258_22 rfl ?_
    rw [gnV_congr (hr0.fl hF), (hr0.fl hF).2.1]
    exact h1 p hi' t' hp rfl (hr0.tr hS)
/-- the best seat -/
theorem c_rbest_loop {g : Nat → Int32} (hF : RF hi f lw sz n ev wi) (hw : RW n row (hi 71)) (hlg : lg ≤ 60) (h33 : hi 71 33 = nI lg) (hg : ∀ p, g p = gnV hi f lw sz n ev wi (hi (f + 1) 3) (swR row n (row wi) (nI p))) :
    ∀ (m p : Nat) (x : Int32 × Int32) (hi' : Nat → Nat → Int32) (t' : Nat) (x4 : Option Value), p + m = n → RS hi hi' → (∀ hi2 t2, RS hi hi2 → Q (some (.int (bsR g m p x).1)) (HP hi2 hl f dr t2)) →
    wq G (0, 0) (d + 38) 259 24 [some (.ref 58), some (.int x.1), some (.int x.2), some (.int (nI p)), x4] [] (0, 0) (HP hi' hl f dr t') Q := by
  have hn := hF.2.1.1
  intro m
  induction m with
  | zero =>
    intro p x hi' t' x4 hm hS hQ
    obtain rfl : p = n := by omega
    have ec : hI (HP hi' hl f dr t') 58 26 = nI p := (hS.2.1 26 (by decide)).trans hF.2.2.1.1
    refine wq_iload_n q259_24 rfl ?_
    refine wq_aload_n q259_25 rfl ?_
    refine wq_getI q259_26 rfl rfl ?_
    refine wq_icmp_ge q259_29 (fun c29 => ?_) (fun c29 => ?_)
    · refine wq_iload_n q259_59 rfl ?_
      refine rI q259_60 rfl ?_
      exact hQ hi' t' hS
    · rw [ec] at c29
      exact absurd (nI_le (Nat.le_refl _) (by omega)) c29
  | succ m ih =>
    intro p x hi' t' x4 hm hS hQ
    have ec : hI (HP hi' hl f dr t') 58 26 = nI n := (hS.2.1 26 (by decide)).trans hF.2.2.1.1
    have e71 : hi' 71 = hi 71 := hS.1 71 (by decide)
    have hfl := hS.fl hF
    have e3 : hi' (f + 1) 3 = hi (f + 1) 3 := by rw [hfl.2.1]
    rw [bsR] at hQ
    refine wq_iload_n q259_24 rfl ?_
    refine wq_aload_n q259_25 rfl ?_
    refine wq_getI q259_26 rfl rfl ?_
    refine wq_icmp_ge q259_29 (fun c29 => ?_) (fun c29 => ?_)
    · rw [ec, nI_leI (by omega) (by omega)] at c29
      omega
    · refine wq_aload_n q259_32 rfl ?_
      refine wq_iload_n q259_33 rfl ?_
      refine cV (As := [_]) q259_34 m_257 rfl rfl rfl ⟨by decide, rfl⟩ rfl (c_rseatBy (d := d) (hS.mv hF) (by rw [e71]; exact hw) hlg (by rw [e71]; exact h33) (show p < n by omega) (fun hi2 t2 hS2 => ?_))
      rw [e3, gnV_congr hfl, ← hg p]
      refine wq_istore (ls' := [_, _, _, _, _]) q259_37 rfl ?_
      refine wq_iload q259_39 rfl ?_
      refine wq_iload_n q259_41 rfl ?_
      refine wq_icmp_gt q259_42 (fun c42 => ?_) (fun c42 => ?_)
      · rw [if_pos c42] at hQ
        refine wq_iload_n q259_48 rfl ?_
        refine wq_istore_n (ls' := [_, _, _, _, _]) q259_49 rfl ?_
        refine wq_iload q259_50 rfl ?_
        refine wq_istore_n (ls' := [_, _, _, _, _]) q259_52 rfl ?_
        refine wq_iinc (ls' := [_, _, _, _, _]) q259_53 rfl rfl ?_
        refine wq_goto q259_56 ?_
        rw [nI_1]
        exact ih (p + 1) (nI p, g p) hi2 t2 _ (by omega) (hS.tr hS2) hQ
      · rw [if_neg c42] at hQ
        refine wq_goto q259_45 ?_
        refine wq_iinc (ls' := [_, _, _, _, _]) q259_53 rfl rfl ?_
        refine wq_goto q259_56 ?_
        rw [nI_1]
        exact ih (p + 1) x hi2 t2 _ (by omega) (hS.tr hS2) hQ
theorem c_rbest {g : Nat → Int32} (hF : RF hi f lw sz n ev wi) (hw : RW n row (hi 71)) (hlg : lg ≤ 60) (h33 : hi 71 33 = nI lg) (hg : ∀ p, g p = gnV hi f lw sz n ev wi (hi (f + 1) 3) (swR row n (row wi) (nI p))) (hg0 : -1 < g 0)
    (hQ : ∀ hi' t', RS hi hi' → Q (some (.int (bsR g n 0 (-1, -1)).1)) (HP hi' hl f dr t')) :
    Ct G (0, 0) (d + 38) 259 [.ref 58] (HP hi hl f dr t) Q := by
  have hn := hF.2.1.1
  have hn1 := hF.2.1.2.1
  have hr0 : RS hi (up2 hi 58 0 0) := RS.upK (by decide) _
  have e26 : hI (HP (up2 hi 58 0 0) hl f dr t) 58 26 = nI n := hF.2.2.1.1
  rw [show n = (n - 1) + 1 by omega, bsR, if_pos hg0] at hQ
  refine Ct_of (ls := [_, _, _, _, _]) m_259.1.2.2.1 (Nat.le_of_ble_eq_true rfl) rfl ?_
  refine wq_aload_n q259_0 rfl ?_
  refine wq_iconst q259_1 ?_
  refine wq_putI q259_2 rfl rfl rfl rfl ?_
  rw [hpS]
  refine wq_aload_n q259_5 rfl ?_
  refine wq_getI q259_6 rfl rfl ?_
  refine wq_if_ne q259_9 (fun c9 => ?_) (fun c9 => ?_)
  · refine wq_iconst q259_14 ?_
    refine wq_istore_n (ls' := [_, _, _, _, _]) q259_15 rfl ?_
    refine wq_aload_n q259_16 rfl ?_
    refine wq_iconst q259_17 ?_
    refine cV (As := [_]) q259_18 m_257 rfl rfl rfl ⟨by decide, rfl⟩ rfl (c_rseatBy (d := d) (p := 0) (hr0.mv hF) hw hlg h33 (by omega) (fun hi2 t2 hS2 => ?_))
    rw [gnV_congr (hr0.fl hF)]
    rw [show gnV hi f lw sz n ev wi (up2 hi 58 0 0 (f + 1) 3) (swR row n (row wi) (nI 0)) = g 0 by rw [hg 0, (hr0.fl hF).2.1]]
    refine wq_istore_n (ls' := [_, _, _, _, _]) q259_21 rfl ?_
    refine wq_iconst q259_22 ?_
    refine wq_istore_n (ls' := [_, _, _, _, _]) q259_23 rfl ?_
    exact c_rbest_loop hF hw hlg h33 hg (n - 1) 1 (nI 0, g 0) hi2 t2 _ (by omega) (hr0.tr hS2) hQ
  · rw [e26] at c9
    exact absurd c9 (nI_ne0 (by omega) (by omega))
end REFSEAT
