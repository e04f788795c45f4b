/-! THE REFERENCE tells -/
/-- but for the row r, what was read, and strengths, nothing has changed -/
def RNw (r : Nat) (hi hi' : Nat → Nat → Int32) : Prop := (∀ a, a ≠ 58 → a ≠ 62 → a ≠ 73 → a ≠ r → hi' a = hi a) ∧ (∀ k, k ∉ gtF → hi' 58 k = hi 58 k)
theorem RNw.rf {r : Nat} {hi : Nat → Nat → Int32} : RNw r hi hi := ⟨fun _ _ _ _ _ => rfl, fun _ _ => rfl⟩
theorem RN.w' {r : Nat} {hi hi' : Nat → Nat → Int32} (h : RN hi hi') : RNw r hi hi' := ⟨fun a a1 a2 a3 _ => h.1 a a1 a2 a3, h.2⟩
theorem RNw.tr {r : Nat} {hi hi1 hi2 : Nat → Nat → Int32} (h : RNw r hi hi1) (h' : RNw r hi1 hi2) : RNw r hi hi2 := ⟨fun a a1 a2 a3 a4 => (h'.1 a a1 a2 a3 a4).trans (h.1 a a1 a2 a3 a4), fun k hk => (h'.2 k hk).trans (h.2 k hk)⟩
theorem RNw.up {r : Nat} {hi hi' : Nat → Nat → Int32} (h : RNw r hi hi') (hr : r ≠ 58) (Z : Nat → Int32) : RNw r hi (upC hi' r Z) := ⟨fun a a1 a2 a3 a4 => by rw [upC_o _ _ a4]; exact h.1 a a1 a2 a3 a4, fun k hk => by rw [upC_o _ _ (Ne.symm hr)]; exact h.2 k hk⟩
theorem RNw.fl {hi hi' : Nat → Nat → Int32} {r f : Nat} {lw : Option Nat} {sz n ev wi : Nat} (h : RNw r hi hi') (hr : Wok r) (hF : RF hi f lw sz n ev wi) : FLs f lw hi hi' := by
  have hr' : r = 71 ∨ r = 72 := hr
  have hA : ∀ a, a < 58 → hi' a = hi a := fun a ha => h.1 a (by omega) (by omega) (by omega) (by omega)
  have hf' : f = 3 ∨ f = 7 := hF.1
  refine ⟨hA _ (by omega), hA _ (by omega), hA _ (by omega), hA _ (by omega), fun a ha => ?_⟩
  rcases hF.2.2.2.2 with ⟨e1, -⟩ | ⟨k, L, b, p, l, sg, e1, e2, -⟩
  · rw [e1] at ha; cases ha
  · rw [e1] at ha
    cases ha
    exact ⟨hA _ (by omega), hA _ (by omega)⟩
theorem RNw.mv {hi hi' : Nat → Nat → Int32} {r f : Nat} {lw : Option Nat} {sz n ev wi : Nat} (h : RNw r hi hi') (hr : Wok r) (hF : RF hi f lw sz n ev wi) : RF hi' f lw sz n ev wi := by
  have hr' : r = 71 ∨ r = 72 := hr
  exact hF.mv (h.fl hr hF) (h.1 60 (by decide) (by decide) (by decide) (by omega)) (h.1 61 (by decide) (by decide) (by decide) (by omega)) (h.1 63 (by decide) (by decide) (by decide) (by omega)) (h.1 65 (by decide) (by decide) (by decide) (by omega)) (h.1 67 (by decide) (by decide) (by decide) (by omega)) (h.2 26 (by decide)) (h.2 27 (by decide)) (h.2 34 (by decide))
/-- other numbers of a row -/
theorem RW.scal {n : Nat} {row w row' w' : Nat → Int32} (h : RW n row w) (hn : n ≤ 7) (h1 : ∀ j, j < 21 → row' j = row j) (h2 : ∀ j, j < 28 → ¬ j % 4 = 2 → w' j = w j) (h28 : w' 28 = row' 28) (h29 : w' 29 = row' 30) (h30 : w' 30 = row' 31) (h31 : w' 31 = row' 29) (h32 : w' 32 = row' 32) : RW n row' w' := by
  obtain ⟨g1, g2, g3, g4, g5, g6, g7, g8, g9⟩ := h
  refine ⟨fun c hc => ?_, fun p hp => ?_, fun p hp => ?_, fun p hp => ?_, h28, h29, h30, h31, h32⟩
  · obtain ⟨p, hp, k1, k2⟩ := g1 c hc
    exact ⟨p, hp, by rw [h1 c (by omega)]; exact k1, by rw [h2 _ (by omega) (by omega)]; exact k2⟩
  · obtain ⟨c, hc, k1, k2⟩ := g2 p hp
    exact ⟨c, hc, by rw [h2 _ (by omega) (by omega)]; exact k1, by rw [h1 c (by omega)]; exact k2⟩
  · rw [h2 _ (by omega) (by omega), h1 _ (by omega)]; exact g3 p hp
  · rw [h2 _ (by omega) (by omega), h1 _ (by omega)]; exact g4 p hp
theorem RW.learn {n : Nat} {row w : Nat → Int32} (h : RW n row w) (hn : n ≤ 7) (z : Int32) : RW n (va_up row 31 z) (va_up w 30 z) :=
  h.scal hn (fun j hj => vu_o _ _ (by omega)) (fun j hj _ => vu_o _ _ (by omega)) (by rw [vu_o _ _ (by decide), vu_o _ _ (by decide)]; exact h.2.2.2.2.1) (by rw [vu_o _ _ (by decide), vu_o _ _ (by decide)]; exact h.2.2.2.2.2.1) (by rw [vu_s, vu_s]) (by rw [vu_o _ _ (by decide), vu_o _ _ (by decide)]; exact h.2.2.2.2.2.2.2.1) (by rw [vu_o _ _ (by decide), vu_o _ _ (by decide)]; exact h.2.2.2.2.2.2.2.2)
section REFTELL
variable {G : ph_G} {d f dr t n r ev wi sz : Nat} {hi hi' : Nat → Nat → Int32} {hl : Nat → Nat → Int64} {Q : Option Value → ph_H → Prop} {row : Nat → Int32} {lw : Option Nat}
/-- who hears an event, and pays -/
theorem c_rone_loop {v te : Nat} {price B : Int32} {S : Nat → Int32} {X : (Nat → Int32) × (Nat → Int32)} {hi1 : Nat → Nat → Int32} (hr : Wok r) (hn : n ≤ 7) (h26 : hi1 58 26 = nI n) (hwi : wi < n) (hw0 : RW n row (hi1 r)) (ete : row wi = nI te) (hte : te < n) (hS : ∀ c, c < n → hi1 73 c = S c) (hB : B = hrR S row wi n 0 0)
    (K : ∀ hi' x6, (∀ a, a ≠ r → hi' a = hi1 a) → RW n X.2 (hi' r) → (∀ j, (28 ≤ j ∨ ¬ j % 4 = 1) → hi' r j = hi1 r j) → wq G (0, 0) (d + 35) 218 108 [some (.ref 58), some (.ref r), some (.int (nI v)), some (.int price), some (.int (nI te)), some (.int B), x6] [] (0, 0) (HP hi' hl f dr t) Q) :
    ∀ (m p : Nat) (x : (Nat → Int32) × (Nat → Int32)) (b : Int32) (hi' : Nat → Nat → Int32), p + m = n → (∀ a, a ≠ r → hi' a = hi1 a) → RW n x.2 (hi' r) → (∀ j, (28 ≤ j ∨ ¬ j % 4 = 1) → hi' r j = hi1 r j) → heR B v te price (7 - p) p x = X → rbR (fun p => bt B p) m p b = B →
    wq G (0, 0) (d + 35) 218 25 [some (.ref 58), some (.ref r), some (.int (nI v)), some (.int price), some (.int (nI te)), some (.int b), some (.int (nI p))] [] (0, 0) (HP hi' hl f dr t) Q := by
  obtain ⟨-, h58, -, h73⟩ := hr.sh hi1 hl f dr t
  intro m
  induction m with
  | zero =>
    intro p x b hi' hm hA hw hJ hX hb
    obtain rfl : p = n := by omega
    have ec : hI (HP hi' hl f dr t) 58 26 = nI p := by show hi' 58 26 = _; rw [hA 58 (Ne.symm h58)]; exact h26
    rw [rbR] at hb
    subst hb
    have hx : x = X := by
      rw [← hX]
      exact (heR_no _ _ _ (by omega) (fun q h1 h2 => by rw [hB]; exact hw0.hr_hi hn h1 (by omega))).symm
    subst hx
    refine wq_iload q218_25 rfl ?_
    refine wq_aload_n q218_27 rfl ?_
    refine wq_getI q218_28 rfl rfl ?_
    refine wq_icmp_ge q218_31 (fun c31 => ?_) (fun c31 => ?_)
    · exact K hi' _ hA hw hJ
    · rw [ec] at c31
      exact absurd (nI_le (Nat.le_refl _) (by omega)) c31
  | succ m ih =>
    intro p x b hi' hm hA hw hJ hX hb
    obtain ⟨hs, -⟩ := hr.sh hi' hl f dr t
    have ec : hI (HP hi' hl f dr t) 58 26 = nI n := by show hi' 58 26 = _; rw [hA 58 (Ne.symm h58)]; exact h26
    obtain ⟨c, hc, k1, k2⟩ := hw0.2.1 p (by omega)
    have hbit := hw0.hr hn (st := S) (fr := wi) (show p < n by omega) hc k1
    rw [← hB] at hbit
    have e4 : hi' r (4 * p) = nI c := (hJ _ (Or.inr (by omega))).trans k1
    have e73 : hi' 73 c = S c := by rw [hA 73 (Ne.symm h73)]; exact hS c hc
    rw [show 7 - p = (7 - (p + 1)) + 1 by omega, heR] at hX
    rw [rbR] at hb
    have skip : ¬ bt B p = true → wq G (0, 0) (d + 35) 218 102 [some (.ref 58), some (.ref r), some (.int (nI v)), some (.int price), some (.int (nI te)), some (.int b), some (.int (nI p))] [] (0, 0) (HP hi' hl f dr t) Q := by
      intro hno
      have eX : heS B v te price p x = x := by unfold heS; rw [if_neg (fun z => hno ((b_test (by omega)).mp z))]
      rw [eX] at hX
      rw [if_neg hno] at hb
      refine wq_iinc (ls' := [_, _, _, _, _, _, _]) q218_102 rfl rfl ?_
      refine wq_goto q218_105 ?_
      rw [nI_1]
      exact ih (p + 1) x b hi' (by omega) hA hw hJ hX hb
    refine wq_iload q218_25 rfl ?_
    refine wq_aload_n q218_27 rfl ?_
    refine wq_getI q218_28 rfl rfl ?_
    refine wq_icmp_ge q218_31 (fun c31 => ?_) (fun c31 => ?_)
    · rw [ec, nI_leI (by omega) (by omega)] at c31
      omega
    · refine wq_iload q218_34 rfl ?_
      refine wq_iload q218_36 rfl ?_
      refine wq_icmp_eq q218_38 (fun c38 => ?_) (fun c38 => ?_)
      · rw [nI_eq (by omega) (by omega)] at c38
        refine skip (fun z => ?_)
        have h1 := (hbit.mp z).1
        have h2 := hw0.cell hn hwi hte ete
        rw [← c38, k1] at h2
        exact h1 ((nI_eq (by omega) (by omega)).mp h2)
      · rw [nI_eq (by omega) (by omega)] at c38
        have hcw : c ≠ wi := by
          rintro rfl
          exact c38 ((nI_eq (by omega) (by omega)).mp (k2.symm.trans ete))
        refine wq_aload_n q218_41 rfl ?_
        refine wq_aload_n q218_42 rfl ?_
        refine wq_iload q218_43 rfl ?_
        refine cV (As := [_, _]) q218_45 m_216 rfl rfl rfl ⟨by decide, rfl⟩ rfl (c_risHeard hr (by omega) (by omega) e4 ?_)
        refine wq_if_ne q218_48 (fun c48 => ?_) (fun c48 => ?_)
        · have hh := p10 c48
          rw [e73] at hh
          have hyes : bt B p = true := hbit.mpr ⟨hcw, hh⟩
          have eX : heS B v te price p x = (va_up x.1 p (x.1 p ||| (1 <<< (nI v &&& 31))), payR (va_up x.2 (21 + p) (x.2 (21 + p) ||| (1 <<< (nI v &&& 31)))) p te price) := by unfold heS; rw [if_pos ((b_test (by omega)).mpr hyes)]
          rw [eX] at hX
          rw [if_pos hyes] at hb
          have hw2 := (hw.know (q := 21 + p) (by omega) hn (x.2 (21 + p) ||| (1 <<< (nI v &&& 31)))).pay hn (show p < n by omega) hte (c := price)
          refine wq_iload q218_54 rfl ?_
          refine wq_iconst q218_56 ?_
          refine wq_iload q218_57 rfl ?_
          refine wq_ishl q218_59 ?_
          refine wq_ior q218_60 ?_
          refine wq_istore (ls' := [_, _, _, _, _, _, _]) q218_61 rfl ?_
          refine wq_aload_n q218_63 rfl ?_
          refine wq_iconst q218_64 ?_
          refine wq_iload q218_65 rfl ?_
          refine wq_imul q218_67 ?_
          refine wq_iconst q218_68 ?_
          refine wq_iadd q218_69 ?_
          refine aI q218_70 (by first | exact hs | rfl) (ix1 p) (by show 4 * p + 1 < 214; omega) (by first | decide | omega) ?_
          refine wq_iload_n q218_71 rfl ?_
          refine wq_icmp_ge q218_72 (fun c72 => ?_) (fun c72 => ?_)
          · rw [hIH] at c72
            refine wq_aload_n q218_78 rfl ?_
            refine wq_iconst q218_79 ?_
            refine wq_iload q218_80 rfl ?_
            refine wq_imul q218_82 ?_
            refine wq_iconst q218_83 ?_
            refine wq_iadd q218_84 ?_
            refine wq_dup2 q218_85 rfl rfl ?_
            refine aI q218_86 (by first | exact hs | rfl) (ix1 p) (by show 4 * p + 1 < 214; omega) (by first | decide | omega) ?_
            refine wq_iload_n q218_87 rfl ?_
            refine wq_isub q218_88 ?_
            refine sI q218_89 (by first | exact hs | rfl) (ix1 p) (by show 4 * p + 1 < 214; omega) (by first | decide | omega) (by first | exact hs | rfl) ?_
            rw [hpS, up2_C]
            rw [hIH]
            obtain ⟨hs2, -⟩ := hr.sh (upC hi' r (va_up (hi' r) (4 * p + 1) (hi' r (4 * p + 1) - price))) hl f dr t
            refine wq_aload_n q218_90 rfl ?_
            refine wq_iconst q218_91 ?_
            refine wq_iload q218_92 rfl ?_
            refine wq_imul q218_94 ?_
            refine wq_iconst q218_95 ?_
            refine wq_iadd q218_96 ?_
            refine wq_dup2 q218_97 rfl rfl ?_
            refine aI q218_98 (by first | exact hs2 | rfl) (ix1 te) (by show 4 * te + 1 < 214; omega) (by first | decide | omega) ?_
            refine wq_iload_n q218_99 rfl ?_
            refine wq_iadd q218_100 ?_
            refine sI q218_101 (by first | exact hs2 | rfl) (ix1 te) (by show 4 * te + 1 < 214; omega) (by first | decide | omega) (by first | exact hs2 | rfl) ?_
            rw [hpS, up2_C, upC_s, upC_C, hIH, upC_s]
            have epy : va_up (va_up (hi' r) (4 * p + 1) (hi' r (4 * p + 1) - price)) (4 * te + 1) (va_up (hi' r) (4 * p + 1) (hi' r (4 * p + 1) - price) (4 * te + 1) + price) = pyW (hi' r) p te price := by unfold pyW; rw [if_neg (Int32.not_lt.mpr c72)]
            rw [epy]
            refine wq_iinc (ls' := [_, _, _, _, _, _, _]) q218_102 rfl rfl ?_
            refine wq_goto q218_105 ?_
            rw [nI_1]
            refine ih (p + 1) _ _ _ (by omega) (fun a ha => by rw [upC_o _ _ ha]; exact hA a ha) (by rw [upC_s]; exact hw2) (fun j hj => by rw [upC_s, pyW_o hj (by omega) (by omega)]; exact hJ j hj) hX hb
          · rw [hIH] at c72
            have epy : pyW (hi' r) p te price = hi' r := by unfold pyW; rw [if_pos (Int32.not_le.mp c72)]
            rw [epy] at hw2
            refine wq_goto q218_75 ?_
            refine wq_iinc (ls' := [_, _, _, _, _, _, _]) q218_102 rfl rfl ?_
            refine wq_goto q218_105 ?_
            rw [nI_1]
            exact ih (p + 1) _ _ hi' (by omega) hA hw2 hJ hX hb
        · have hh := p01 c48
          rw [e73] at hh
          refine wq_goto q218_51 ?_
          exact skip (fun z => hh (hbit.mp z).2)
/-- one event is told -/
theorem c_rone {v : Nat} {price : Int32} {x1 : Nat → Int32} (hF : RF hi f lw sz n ev wi) (hr : Wok r) (hw : RW n row (hi r)) (hv : v < ev) {B : Int32} (hB : B = hrR (spV hi f lw sz v row (sOf row) wi) row wi n 0 0)
    (hQ : ∀ hi' t', RNw r hi hi' → RW n (va_up (heR B v (sOf row wi) price 7 0 (x1, row)).2 31 ((heR B v (sOf row wi) price 7 0 (x1, row)).2 31 + hi (f + 3) (v * 2))) (hi' r) → (∀ p, p < n → hi' r (4 * p + 2) = hi r (4 * p + 2)) → (∀ j, 33 ≤ j → hi' r j = hi r j) → Q (some (.int B)) (HP hi' hl f dr t')) :
    Ct G (0, 0) (d + 35) 218 [.ref 58, .ref r, .int (nI v), .int price] (HP hi hl f dr t) Q := by
  have hn := hF.2.1.1
  have hwi := hF.2.1.2.2.2.1
  have hev := hF.2.1.2.2.1
  have e63 : hI (HP hi hl f dr t) 63 0 = nI wi := (hF.2.2.1.2.2.1 0 (by decide)).trans hF.2.1.2.2.2.2.2.2
  obtain ⟨s1, s2, s3⟩ := hw.s hn hwi
  refine Ct_of (ls := [_, _, _, _, _, _, _]) m_218.1.2.2.1 (Nat.le_of_ble_eq_true rfl) rfl ?_
  refine wq_aload_n q218_0 rfl ?_
  refine wq_aload_n q218_1 rfl ?_
  refine wq_aload_n q218_2 rfl ?_
  refine wq_getR q218_3 rfl rfl rfl ?_
  refine wq_iconst q218_6 ?_
  refine aI q218_7 rfl (rfl) (by decide) (by first | decide | omega) ?_
  rw [e63]
  refine wq_iload_n q218_8 rfl ?_
  refine cV (As := [_, _, _]) q218_9 m_215 rfl rfl rfl ⟨by decide, rfl⟩ rfl (c_rknocks (d := d) hF hr hw hv hwi (fun hi1 t1 hN hS => ?_))
  have hF1 := hN.mv hF
  have hr1 := hN.w hr
  have hw1 : RW n row (hi1 r) := by rw [hr1]; exact hw
  refine wq_aload_n q218_12 rfl ?_
  refine wq_aload_n q218_13 rfl ?_
  refine cV (As := [_]) q218_14 m_213 rfl rfl rfl ⟨by decide, rfl⟩ rfl (c_rteller hr hn hF1.2.2.1.1 ((hF1.2.2.1.2.2.1 0 (by decide)).trans hF1.2.1.2.2.2.2.2.2) hw1 hwi ?_)
  rw [s2]
  refine wq_istore (ls' := [_, _, _, _, _, _, _]) q218_17 rfl ?_
  refine wq_iconst q218_19 ?_
  refine wq_istore (ls' := [_, _, _, _, _, _, _]) q218_20 rfl ?_
  refine wq_iconst q218_22 ?_
  refine wq_istore (ls' := [_, _, _, _, _, _, _]) q218_23 rfl ?_
  refine c_rone_loop (wi := wi) (row := row) (B := B) (S := spV hi f lw sz v row (sOf row) wi) (X := heR B v (sOf row wi) price 7 0 (x1, row)) hr hn hF1.2.2.1.1 hwi hw1 s2 s1 hS hB (fun hi2 x6 hA hw2 hJ => ?_) n 0 (x1, row) 0 hi1 (by omega) (fun _ _ => rfl) hw1 (fun _ _ => rfl) rfl (by rw [hB]; exact hw1.bits hn)
  obtain ⟨hs, -⟩ := hr.sh hi2 hl f dr t1
  have h58 := (hr.sh hi2 hl f dr t1).2.1
  have h67 : r ≠ 67 := by rcases hr with rfl | rfl <;> decide
  have ekn : hI (HP hi2 hl f dr t1) 67 (v * 2) = hi (f + 3) (v * 2) := by
    show hi2 67 _ = _
    rw [hA 67 (Ne.symm h67), hN.1 67 (by decide) (by decide) (by decide)]
    exact hF.2.2.1.2.2.2.2 _ (by omega)
  refine wq_aload_n q218_108 rfl ?_
  refine wq_bipush q218_109 ?_
  refine wq_dup2 q218_111 rfl rfl ?_
  refine aI q218_112 (by first | exact hs | rfl) ((show (30 : Int32) = nI 30 from rfl)) (by decide) (by first | decide | omega) ?_
  refine wq_aload_n q218_113 rfl ?_
  refine wq_getR q218_114 (by first | exact hs | rfl) rfl (by first | exact hs | rfl) ?_
  refine wq_iconst q218_117 ?_
  refine wq_iload_n q218_118 rfl ?_
  refine wq_imul q218_119 ?_
  refine aI q218_120 (by first | exact hs | rfl) (iv0 v) (by show v * 2 < 12; omega) (by first | decide | omega) ?_
  rw [ekn]
  refine wq_iadd q218_121 ?_
  refine sI q218_122 (by first | exact hs | rfl) ((show (30 : Int32) = nI 30 from rfl)) (by decide) (by first | decide | omega) (by first | exact hs | rfl) ?_
  refine wq_iload q218_123 rfl ?_
  refine rI q218_125 rfl ?_
  rw [hpS, up2_C, hIH]
  have e30 : hi2 r 30 = (heR B v (sOf row wi) price 7 0 (x1, row)).2 31 := hw2.2.2.2.2.2.2.1
  rw [e30]
  refine hQ _ t1 ⟨fun a a1 a2 a3 a4 => ?_, fun k hk => ?_⟩ (by rw [upC_s]; exact hw2.learn hn _) (fun p hp => ?_) (fun j hj => ?_)
  · rw [upC_o _ _ a4, hA a a4]
    exact hN.1 a a1 a2 a3
  · rw [upC_o _ _ (Ne.symm h58), hA 58 (Ne.symm h58)]
    exact hN.2 k hk
  · rw [upC_s, vu_o _ _ (by omega), hJ _ (Or.inr (by omega)), hr1]
  · rw [upC_s, vu_o _ _ (by omega), hJ _ (Or.inl (by omega)), hr1]
/-- who hears from a cell -/
theorem c_rhears_loop {te fr v : Nat} {B : Int32} {S : Nat → Int32} (hn : n ≤ 7) (h26 : hi 58 26 = nI n) (hfr : fr < n) (hw0 : RW n row (hi 71)) (ete : row fr = nI te) (hte : te < n) (hS : ∀ c, c < n → hi 73 c = S c) (hB : B = hrR S row fr n 0 0) (hQ : Q (some (.int B)) (HP hi hl f dr t)) :
    ∀ (m p : Nat) (b : Int32), p + m = n → rbR (fun p => bt B p) m p b = B →
    wq G (0, 0) (d + 35) 275 26 [some (.ref 58), some (.int (nI fr)), some (.int (nI v)), some (.int (nI te)), some (.int b), some (.int (nI p))] [] (0, 0) (HP hi hl f dr t) Q := by
  have ec : hI (HP hi hl f dr t) 58 26 = nI n := h26
  intro m
  induction m with
  | zero =>
    intro p b hm hb
    obtain rfl : p = n := by omega
    rw [rbR] at hb
    subst hb
    refine wq_iload q275_26 rfl ?_
    refine wq_aload_n q275_28 rfl ?_
    refine wq_getI q275_29 rfl rfl ?_
    refine wq_icmp_ge q275_32 (fun c32 => ?_) (fun c32 => ?_)
    · refine wq_iload q275_73 rfl ?_
      refine rI q275_75 rfl ?_
      exact hQ
    · rw [ec] at c32
      exact absurd (nI_le (Nat.le_refl _) (by omega)) c32
  | succ m ih =>
    intro p b hm hb
    obtain ⟨c, hc, k1, k2⟩ := hw0.2.1 p (by omega)
    have hbit := hw0.hr hn (st := S) (fr := fr) (show p < n by omega) hc k1
    rw [← hB] at hbit
    rw [rbR] at hb
    have hor : ∀ x : Int32, x ||| 0 = x := fun x => b_ext (fun i _ => by rw [b_or, b_0, Bool.or_false])
    have skip : ¬ bt B p = true → wq G (0, 0) (d + 35) 275 63 [some (.ref 58), some (.int (nI fr)), some (.int (nI v)), some (.int (nI te)), some (.int b), some (.int (nI p))] [.int b] (0, 0) (HP hi hl f dr t) Q := by
      intro hno
      rw [if_neg hno] at hb
      refine wq_iconst q275_63 ?_
      refine wq_ior q275_64 ?_
      refine wq_istore (ls' := [_, _, _, _, _, _]) q275_65 rfl ?_
      refine wq_iinc (ls' := [_, _, _, _, _, _]) q275_67 rfl rfl ?_
      refine wq_goto q275_70 ?_
      rw [nI_1, hor]
      exact ih (p + 1) b (by omega) hb
    refine wq_iload q275_26 rfl ?_
    refine wq_aload_n q275_28 rfl ?_
    refine wq_getI q275_29 rfl rfl ?_
    refine wq_icmp_ge q275_32 (fun c32 => ?_) (fun c32 => ?_)
    · rw [ec, nI_leI (by omega) (by omega)] at c32
      omega
    · refine wq_iload q275_35 rfl ?_
      refine wq_iload q275_37 rfl ?_
      refine wq_iload_n q275_39 rfl ?_
      refine wq_icmp_eq q275_40 (fun c40 => ?_) (fun c40 => ?_)
      · rw [nI_eq (by omega) (by omega)] at c40
        refine skip (fun z => ?_)
        have h1 := (hbit.mp z).1
        have h2 := hw0.cell hn hfr hte ete
        rw [← c40, k1] at h2
        exact h1 ((nI_eq (by omega) (by omega)).mp h2)
      · rw [nI_eq (by omega) (by omega)] at c40
        have hcw : c ≠ fr := by
          rintro rfl
          exact c40 ((nI_eq (by omega) (by omega)).mp (k2.symm.trans ete))
        refine wq_aload_n q275_43 rfl ?_
        refine wq_aload_n q275_44 rfl ?_
        refine wq_getR q275_45 rfl rfl rfl ?_
        refine wq_iload q275_48 rfl ?_
        refine cV (As := [_, _]) q275_50 m_216 rfl rfl rfl ⟨by decide, rfl⟩ rfl (c_risHeard (Or.inl rfl) (by omega) (by omega) k1 ?_)
        refine wq_if_eq q275_53 (fun c53 => ?_) (fun c53 => ?_)
        · have hh := p01 c53
          rw [hS c hc] at hh
          exact skip (fun z => hh (hbit.mp z).2)
        · have hh := p10 c53
          rw [hS c hc] at hh
          have hyes : bt B p = true := hbit.mpr ⟨hcw, hh⟩
          rw [if_pos hyes] at hb
          refine wq_iconst q275_56 ?_
          refine wq_iload q275_57 rfl ?_
          refine wq_ishl q275_59 ?_
          refine wq_goto q275_60 ?_
          refine wq_ior q275_64 ?_
          refine wq_istore (ls' := [_, _, _, _, _, _]) q275_65 rfl ?_
          refine wq_iinc (ls' := [_, _, _, _, _, _]) q275_67 rfl rfl ?_
          refine wq_goto q275_70 ?_
          rw [nI_1]
          exact ih (p + 1) _ (by omega) hb
theorem c_rhears {fr v : Nat} (hF : RF hi f lw sz n ev wi) (hw : RW n row (hi 71)) (hv : v < ev) (hfr : fr < n) (hQ : ∀ hi' t', RN hi hi' → Q (some (.int (heV hi f lw sz n v row fr))) (HP hi' hl f dr t')) :
    Ct G (0, 0) (d + 35) 275 [.ref 58, .int (nI fr), .int (nI v)] (HP hi hl f dr t) Q := by
  have hn := hF.2.1.1
  obtain ⟨s1, s2, s3⟩ := hw.s hn hfr
  refine Ct_of (ls := [_, _, _, _, _, _]) m_275.1.2.2.1 (Nat.le_of_ble_eq_true rfl) rfl ?_
  refine wq_aload_n q275_0 rfl ?_
  refine wq_aload_n q275_1 rfl ?_
  refine wq_getR q275_2 rfl rfl rfl ?_
  refine wq_iload_n q275_5 rfl ?_
  refine wq_iload_n q275_6 rfl ?_
  refine cV (As := [_, _, _]) q275_7 m_215 rfl rfl rfl ⟨by decide, rfl⟩ rfl (c_rknocks (d := d) hF (Or.inl rfl) hw hv hfr (fun hi1 t1 hN hS => ?_))
  have hF1 := hN.mv hF
  have hw1 : RW n row (hi1 71) := by rw [hN.w (Or.inl rfl)]; exact hw
  refine wq_aload_n q275_10 rfl ?_
  refine wq_aload_n q275_11 rfl ?_
  refine wq_getR q275_12 rfl rfl rfl ?_
  refine wq_iload_n q275_15 rfl ?_
  refine cV (As := [_, _]) q275_16 m_212 rfl rfl rfl ⟨by decide, rfl⟩ rfl (c_inCell (Or.inl rfl) hn hF1.2.2.1.1 hw1 hfr ?_)
  rw [s2]
  refine wq_istore_n (ls' := [_, _, _, _, _, _]) q275_19 rfl ?_
  refine wq_iconst q275_20 ?_
  refine wq_istore (ls' := [_, _, _, _, _, _]) q275_21 rfl ?_
  refine wq_iconst q275_23 ?_
  refine wq_istore (ls' := [_, _, _, _, _, _]) q275_24 rfl ?_
  exact c_rhears_loop (B := heV hi f lw sz n v row fr) (S := spV hi f lw sz v row (sOf row) fr) hn hF1.2.2.1.1 hfr hw1 s2 s1 hS rfl (hQ hi1 t1 hN) n 0 0 (by omega) (hw1.bits hn)
end REFTELL
