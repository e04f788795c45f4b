/-! THE REFERENCE: what walls take, how knocks spread -/
/-- the law that holds, in class and reference -/
def LwR (hi : Nat → Nat → Int32) (lw : Option Nat) (sz : Nat) : Prop := (lw = none ∧ hi 58 34 = -1) ∨ ∃ k L b p l sg, lw = some (13 + 5 * k) ∧ k < 4 ∧ hi 58 34 = nI k ∧ hi 61 k = nI L ∧ L ≤ 240 ∧ TpB b L ∧ (∀ j, j < L → hi 60 (240 * k + j) = (b j).toInt8.toInt32) ∧ pLawT b L = .inr (p, l) ∧ hi (13 + 5 * k + 1) = apL sg 0 (lwS l) ∧ sz = (lwS l).length
/-- the reference's fort and law are the class's -/
def RF (hi : Nat → Nat → Int32) (f : Nat) (lw : Option Nat) (sz n ev wi : Nat) : Prop := Fok f ∧ FoK hi f n ev wi ∧ FoR hi f n ev ∧ FoB hi f n ev ∧ LwR hi lw sz
theorem RF.mv {hi hi' : Nat → Nat → Int32} {f : Nat} {lw : Option Nat} {sz n ev wi : Nat} (h : RF hi f lw sz n ev wi) (hfl : FLs f lw hi hi') (h60 : hi' 60 = hi 60) (h61 : hi' 61 = hi 61) (h63 : hi' 63 = hi 63) (h65 : hi' 65 = hi 65) (h67 : hi' 67 = hi 67) (k26 : hi' 58 26 = hi 58 26) (k27 : hi' 58 27 = hi 58 27) (k34 : hi' 58 34 = hi 58 34) : RF hi' f lw sz n ev wi := by
  obtain ⟨hf, hk, ⟨g1, g2, g3, g4, g5⟩, ⟨b1, b2, b3⟩, hl⟩ := h
  refine ⟨hf, hk.moved hfl, ⟨k26.trans g1, k27.trans g2, fun k hk => ?_, fun k hk => ?_, fun k hk => ?_⟩, ⟨fun k hk => ?_, fun c k hc hk => ?_, fun e k he hk => ?_⟩, ?_⟩
  · rw [h63, hfl.2.1]; exact g3 k hk
  · rw [h65, hfl.2.2.1]; exact g4 k hk
  · rw [h67, hfl.2.2.2.1]; exact g5 k hk
  · rw [hfl.2.1]; exact b1 k hk
  · rw [hfl.2.2.1]; exact b2 c k hc hk
  · rw [hfl.2.2.2.1]; exact b3 e k he hk
  · rcases hl with ⟨e1, e2⟩ | ⟨k, L, b, p, l, sg, e1, e2, e3, e4, e5, e6, e7, e8, e9, e10⟩
    · exact Or.inl ⟨e1, k34.trans e2⟩
    · exact Or.inr ⟨k, L, b, p, l, sg, e1, e2, k34.trans e3, by rw [h61]; exact e4, e5, e6, by rw [h60]; exact e7, e8, by rw [(hfl.2.2.2.2 _ e1).2]; exact e9, e10⟩
/-- nothing but what a text's reading needs has changed; and strengths -/
def RQ (hi hi' : Nat → Nat → Int32) : Prop := (∀ a, a ≠ 58 → a ≠ 62 → hi' a = hi a) ∧ (∀ k, k ∉ gtF → hi' 58 k = hi 58 k)
def RN (hi hi' : Nat → Nat → Int32) : Prop := (∀ a, a ≠ 58 → a ≠ 62 → a ≠ 73 → hi' a = hi a) ∧ (∀ k, k ∉ gtF → hi' 58 k = hi 58 k)
theorem RN.rf {hi : Nat → Nat → Int32} : RN hi hi := ⟨fun _ _ _ _ => rfl, fun _ _ => rfl⟩
theorem RN.tr {hi hi1 hi2 : Nat → Nat → Int32} (h : RN hi hi1) (h' : RN hi1 hi2) : RN hi hi2 := ⟨fun a a1 a2 a3 => (h'.1 a a1 a2 a3).trans (h.1 a a1 a2 a3), fun k hk => (h'.2 k hk).trans (h.2 k hk)⟩
theorem RQ.rn {hi hi' : Nat → Nat → Int32} (h : RQ hi hi') : RN hi hi' := ⟨fun a a1 a2 _ => h.1 a a1 a2, h.2⟩
theorem RN.up {hi hi' : Nat → Nat → Int32} (h : RN hi hi') (Z : Nat → Int32) : RN hi (upC hi' 73 Z) := ⟨fun a a1 a2 a3 => by rw [upC_o _ _ a3]; exact h.1 a a1 a2 a3, fun k hk => by rw [upC_o _ _ (by decide)]; exact h.2 k hk⟩
theorem RN.fl {hi hi' : Nat → Nat → Int32} {f : Nat} {lw : Option Nat} {sz n ev wi : Nat} (h : RN hi hi') (hF : RF hi f lw sz n ev wi) : FLs f lw hi hi' := by
  have hf := hF.1
  have hA : ∀ a, a < 58 → hi' a = hi a := fun a ha => h.1 a (by omega) (by omega) (by omega)
  have hf' : f = 3 ∨ f = 7 := hf
  refine ⟨hA _ (by omega), hA _ (by omega), hA _ (by omega), hA _ (by omega), fun a ha => ?_⟩
  rcases hF.2.2.2.2 with ⟨e1, -⟩ | ⟨k, L, b, p, l, sg, e1, e2, -⟩
  · rw [e1] at ha; cases ha
  · rw [e1] at ha
    cases ha
    exact ⟨hA _ (by omega), hA _ (by omega)⟩
theorem RN.mv {hi hi' : Nat → Nat → Int32} {f : Nat} {lw : Option Nat} {sz n ev wi : Nat} (h : RN hi hi') (hF : RF hi f lw sz n ev wi) : RF hi' f lw sz n ev wi :=
  hF.mv (h.fl hF) (h.1 60 (by decide) (by decide) (by decide)) (h.1 61 (by decide) (by decide) (by decide)) (h.1 63 (by decide) (by decide) (by decide)) (h.1 65 (by decide) (by decide) (by decide)) (h.1 67 (by decide) (by decide) (by decide)) (h.2 26 (by decide)) (h.2 27 (by decide)) (h.2 34 (by decide))
theorem RN.w {hi hi' : Nat → Nat → Int32} {r : Nat} (h : RN hi hi') (hr : Wok r) : hi' r = hi r := by
  rcases hr with rfl | rfl <;> exact h.1 _ (by decide) (by decide) (by decide)
theorem mxn {x : Int32} (h0 : 0 ≤ x) (h1 : x ≤ 30) : mx0 (mn99 x) = x := by
  have e : mn99 x = x := by
    unfold mn99
    rw [if_pos]
    rw [Int32.lt_iff_toInt_lt]
    rw [Int32.le_iff_toInt_le] at h1
    rw [show (30 : Int32).toInt = 30 from rfl] at h1
    rw [show (99 : Int32).toInt = 99 from rfl]
    omega
  rw [e]
  unfold mx0
  by_cases h : 0 < x
  · rw [if_pos h]
  · rw [if_neg h]
    rw [Int32.lt_iff_toInt_lt] at h
    rw [Int32.le_iff_toInt_le] at h0
    exact Int32.toInt_inj.mp (by omega)
theorem pLawT_cl {b : Nat → Int32} {L p : Nat} {l : List Cl} (h : pLawT b L = .inr (p, l)) : ∀ cl, cl ∈ l → clR cl := by
  unfold pLawT pFin at h
  have h0 := pLaw_ok (b := b) (L := L) 240 0 (by omega)
  cases hps : pLaw b L 240 0 with
  | inl q1 =>
    rw [hps] at h
    cases h
  | inr z =>
    obtain ⟨p1, l1⟩ := z
    rw [hps, pB_r] at h
    have hp1 := (h0.2 p1 l1 hps).2
    split at h
    · cases h
      exact hp1
    · cases h
section REFKNOCK
variable {G : ph_G} {d f dr t n r ev wi sz : Nat} {hi hi' : Nat → Nat → Int32} {hl : Nat → Nat → Int64} {Q : Option Value → ph_H → Prop} {row : Nat → Int32} {lw : Option Nat}
theorem c_rtk_end {x1 x2 x3 x4 : Option Value} {x : Int32} {h : ph_H} (hQ : Q (some (.int (mx0 (mn99 x)))) h) : wq G (0, 0) (d + 1) 214 121 [some (.ref 58), x1, x2, x3, x4, some (.int x)] [] (0, 0) h Q := by
  refine wq_iconst q214_121 ?_
  refine wq_bipush q214_122 ?_
  refine wq_iload q214_124 rfl ?_
  refine wq_min q214_126 ⟨Nat.le.refl, Nat.le.refl, Nat.le_of_ble_eq_true rfl⟩ ?_
  refine wq_max q214_129 ⟨Nat.le.refl, Nat.le.refl, Nat.le_of_ble_eq_true rfl⟩ ?_
  refine rI q214_132 rfl ?_
  exact hQ
/-- what a wall takes -/
theorem c_rtk {v wl to : Nat} (hF : RF hi f lw sz n ev wi) (hr : Wok r) (hw : RW n row (hi r)) (hv : v < ev) (hwl : wl < n) (hto : to < n)
    (hQ : ∀ hi' t', RQ hi hi' → Q (some (.int (tkV hi lw sz (LT 0 (hi (f + 3) (v * 2)) 0 v (row 32) (row 31)) (hi (f + 2) (wl * 5)) (hi (f + 2) (sOf row to * 5 + 1))))) (HP hi' hl f dr t')) :
    Ct G (0, 0) (d + 33) 214 [.ref 58, .ref r, .int (nI wl), .int (nI to), .int (nI v)] (HP hi hl f dr t) Q := by
  obtain ⟨hf, ⟨hn, hn1, hev, hwi, hc, hc4, hc0⟩, ⟨g1, g2, g3, g4, g5⟩, ⟨b1, b2, b3⟩, hlw⟩ := hF
  obtain ⟨-, h58, h62, h73⟩ := hr.sh hi hl f dr t
  obtain ⟨s1, s2, s3⟩ := hw.s hn hto
  have e65 : hi 65 (wl * 5 + 0) = hi (f + 2) (wl * 5) := g4 (wl * 5) (by omega)
  have eL : hI (HP hi hl f dr t) 58 34 = hi 58 34 := rfl
  refine Ct_of (ls := [_, _, _, _, _, _]) m_214.1.2.2.1 (Nat.le_of_ble_eq_true rfl) rfl ?_
  refine wq_aload_n q214_0 rfl ?_
  refine wq_iload_n q214_1 rfl ?_
  refine wq_iconst q214_2 ?_
  refine cV (As := [_, _]) q214_3 m_211 rfl rfl rfl ⟨by decide, rfl⟩ rfl (c_toldH (w := 0) (by omega) (by omega) ?_)
  rw [e65]
  rcases hlw with ⟨rfl, e2⟩ | ⟨k, L, b, p, l, sg, rfl, k4, e3, e4, e5, e6, e7, e8, e9, rfl⟩
  · refine wq_istore (ls' := [_, _, _, _, _, _]) q214_6 rfl ?_
    refine wq_aload_n q214_8 rfl ?_
    refine wq_getI q214_9 rfl rfl ?_
    refine wq_iconst q214_12 ?_
    refine wq_icmp_eq q214_13 (fun c13 => ?_) (fun c13 => ?_)
    · refine c_rtk_end ?_
      obtain ⟨t1, t2⟩ := b2 wl 0 hwl (by decide)
      rw [show mx0 (mn99 (hi (f + 2) (wl * 5))) = hi (f + 2) (wl * 5) from mxn t1 t2]
      exact hQ hi t ⟨fun _ _ _ => rfl, fun _ _ => rfl⟩
    · exact absurd e2 c13
  · have hs : ∀ Λ, (hS (HP (upC hi 62 Λ) hl f dr t))[r]? = some (100, 214) := fun Λ => (hr.sh _ hl f dr t).1
    have eme : ∀ Λ, (upC hi 62 Λ) 65 (sOf row to * 5 + 1) = hi (f + 2) (sOf row to * 5 + 1) := fun Λ => g4 _ (by omega)
    have ekn : ∀ Λ, hI (HP (upC hi 62 Λ) hl f dr t) 67 (v * 2) = hi (f + 3) (v * 2) := fun Λ => g5 _ (by omega)
    have ed : ∀ Λ, hI (HP (upC hi 62 Λ) hl f dr t) r 32 = row 32 := fun Λ => by show upC hi 62 Λ r 32 = _; rw [upC_o _ _ h62]; exact hw.2.2.2.2.2.2.2.2
    have eg : ∀ Λ, hI (HP (upC hi 62 Λ) hl f dr t) r 30 = row 31 := fun Λ => by show upC hi 62 Λ r 30 = _; rw [upC_o _ _ h62]; exact hw.2.2.2.2.2.2.1
    have hw' : ∀ Λ, RW n row (upC hi 62 Λ r) := fun Λ => by rw [upC_o _ _ h62]; exact hw
    have e34 : ∀ Λ, hI (HP (upC hi 62 Λ) hl f dr t) 58 34 = nI k := fun Λ => e3
    have e61 : ∀ Λ, hI (HP (upC hi 62 Λ) hl f dr t) 61 k = nI L := fun Λ => e4
    refine wq_istore (ls' := [_, _, _, _, _, _]) q214_6 rfl ?_
    refine wq_aload_n q214_8 rfl ?_
    refine wq_getI q214_9 rfl rfl ?_
    refine wq_iconst q214_12 ?_
    refine wq_icmp_eq q214_13 (fun c13 => ?_) (fun c13 => ?_)
    · rw [eL, e3] at c13
      exact absurd c13 (nI_nm1 (by omega))
    · refine wq_aload_n q214_16 rfl ?_
      refine wq_getR q214_17 rfl rfl rfl ?_
      refine wq_bipush q214_20 ?_
      refine wq_iload q214_22 rfl ?_
      refine sI q214_24 rfl ((show (116 : Int32) = nI 116 from rfl)) (by decide) (by first | decide | omega) rfl ?_
      rw [hpS, up2_C]
      generalize q1 : va_up (hi 62) 116 (hi (f + 2) (wl * 5)) = A1
      refine wq_aload_n q214_25 rfl ?_
      refine wq_getR q214_26 rfl rfl rfl ?_
      refine wq_bipush q214_29 ?_
      refine wq_aload_n q214_31 rfl ?_
      refine wq_getR q214_32 rfl rfl rfl ?_
      refine wq_iconst q214_35 ?_
      refine wq_iload q214_36 rfl ?_
      refine wq_imul q214_38 ?_
      refine aI q214_39 rfl (iv0 v) (by show v * 2 < 12; omega) (by first | decide | omega) ?_
      rw [ekn]
      refine sI q214_40 rfl ((show (110 : Int32) = nI 110 from rfl)) (by decide) (by first | decide | omega) rfl ?_
      rw [hpS, up2_C, upC_s, upC_C]
      generalize q2 : va_up A1 110 (hi (f + 3) (v * 2)) = A2
      refine wq_aload_n q214_41 rfl ?_
      refine wq_getR q214_42 rfl rfl rfl ?_
      refine wq_bipush q214_45 ?_
      refine wq_aload_n q214_47 rfl ?_
      refine wq_aload_n q214_48 rfl ?_
      refine wq_aload_n q214_49 rfl ?_
      refine wq_iload_n q214_50 rfl ?_
      refine cV (As := [_, _]) q214_51 m_212 rfl rfl rfl ⟨by decide, rfl⟩ rfl (c_inCell hr hn g1 (hw' A2) hto ?_)
      rw [s2]
      refine wq_iconst q214_54 ?_
      refine cV (As := [_, _]) q214_55 m_211 rfl rfl rfl ⟨by decide, rfl⟩ rfl (c_toldH (w := 1) (by omega) (by omega) ?_)
      rw [eme]
      refine sI q214_58 rfl ((show (109 : Int32) = nI 109 from rfl)) (by decide) (by first | decide | omega) rfl ?_
      rw [hpS, up2_C, upC_s, upC_C]
      generalize q3 : va_up A2 109 (hi (f + 2) (sOf row to * 5 + 1)) = A3
      refine wq_aload_n q214_59 rfl ?_
      refine wq_getR q214_60 rfl rfl rfl ?_
      refine wq_bipush q214_63 ?_
      refine wq_iload q214_65 rfl ?_
      refine sI q214_67 rfl ((show (107 : Int32) = nI 107 from rfl)) (by decide) (by first | decide | omega) rfl ?_
      rw [hpS, up2_C, upC_s, upC_C]
      generalize q4 : va_up A3 107 (nI v) = A4
      have hs1 := hs A4
      refine wq_aload_n q214_68 rfl ?_
      refine wq_getR q214_69 (by first | exact hs1 | rfl) rfl (by first | exact hs1 | rfl) ?_
      refine wq_bipush q214_72 ?_
      refine wq_aload_n q214_74 rfl ?_
      refine wq_bipush q214_75 ?_
      refine aI q214_77 (by first | exact hs1 | rfl) ((show (32 : Int32) = nI 32 from rfl)) (by decide) (by first | decide | omega) ?_
      rw [ed]
      refine sI q214_78 rfl ((show (100 : Int32) = nI 100 from rfl)) (by decide) (by first | decide | omega) rfl ?_
      rw [hpS, up2_C, upC_s, upC_C]
      generalize q5 : va_up A4 100 (row 32) = A5
      have hs1 := hs A5
      refine wq_aload_n q214_79 rfl ?_
      refine wq_getR q214_80 (by first | exact hs1 | rfl) rfl (by first | exact hs1 | rfl) ?_
      refine wq_bipush q214_83 ?_
      refine wq_aload_n q214_85 rfl ?_
      refine wq_bipush q214_86 ?_
      refine aI q214_88 (by first | exact hs1 | rfl) ((show (30 : Int32) = nI 30 from rfl)) (by decide) (by first | decide | omega) ?_
      rw [eg]
      refine sI q214_89 rfl ((show (103 : Int32) = nI 103 from rfl)) (by decide) (by first | decide | omega) rfl ?_
      rw [hpS, up2_C, upC_s, upC_C]
      generalize q6 : va_up A5 103 (row 31) = A6
      refine wq_aload_n q214_90 rfl ?_
      refine wq_aload_n q214_91 rfl ?_
      refine wq_getR q214_92 rfl rfl rfl ?_
      refine wq_sipush q214_95 ?_
      refine wq_aload_n q214_98 rfl ?_
      refine wq_getI q214_99 rfl rfl ?_
      refine wq_imul q214_102 ?_
      refine wq_aload_n q214_103 rfl ?_
      refine wq_getR q214_104 rfl rfl rfl ?_
      refine wq_aload_n q214_107 rfl ?_
      refine wq_getI q214_108 rfl rfl ?_
      rw [e34]
      refine aI q214_111 rfl (rfl) (by show k < 4; omega) (by first | decide | omega) ?_
      rw [e61, show (240 : Int32) * nI k = nI (240 * k) by rw [show (240 : Int32) = nI 240 from rfl, pk_mul]]
      have hlt : ∀ j, j < 6 → va_up (va_up (LT 0 (hi (f + 3) (v * 2)) 0 v (row 32) (row 31)) 0 (hi (f + 2) (wl * 5))) 2 (hi (f + 2) (sOf row to * 5 + 1)) j = (upC hi 62 A6) 62 (cB 3 j).toNatClampNeg := by
        intro j hj
        rw [upC_s]
        match j, hj with
        | 0, _ =>
          rw [show (cB 3 0).toNatClampNeg = 116 by decide, ← q6, ← q5, ← q4, ← q3, ← q2, ← q1]
          rfl
        | 1, _ =>
          rw [show (cB 3 1).toNatClampNeg = 110 by decide, ← q6, ← q5, ← q4, ← q3, ← q2, ← q1]
          rfl
        | 2, _ =>
          rw [show (cB 3 2).toNatClampNeg = 109 by decide, ← q6, ← q5, ← q4, ← q3, ← q2, ← q1]
          rfl
        | 3, _ =>
          rw [show (cB 3 3).toNatClampNeg = 107 by decide, ← q6, ← q5, ← q4, ← q3, ← q2, ← q1]
          rfl
        | 4, _ =>
          rw [show (cB 3 4).toNatClampNeg = 100 by decide, ← q6, ← q5, ← q4, ← q3, ← q2, ← q1]
          rfl
        | 5, _ =>
          rw [show (cB 3 5).toNatClampNeg = 103 by decide, ← q6, ← q5, ← q4, ← q3, ← q2, ← q1]
          rfl
      refine cV (As := [_, _, _]) q214_112 m_193 rfl rfl rfl ⟨by decide, rfl⟩ rfl (c_goThrough (d := d + 1) (t := 60) (N := 960) (bg := 240 * k) (L := L) (b := b) (lt := va_up (va_up (LT 0 (hi (f + 3) (v * 2)) 0 v (row 32) (row 31)) 0 (hi (f + 2) (wl * 5))) 2 (hi (f + 2) (sOf row to * 5 + 1))) (Or.inr ⟨rfl, rfl⟩) e5 (by omega) e6 e7 hlt (fun hi2 y1 y2 y3 y4 => ?_))
      obtain ⟨-, y5⟩ := y4 p l e8
      have e14 : hI (HP hi2 hl f dr 60) 58 14 = lawEv (va_up (va_up (LT 0 (hi (f + 3) (v * 2)) 0 v (row 32) (row 31)) 0 (hi (f + 2) (wl * 5))) 2 (hi (f + 2) (sOf row to * 5 + 1))) l := y5
      refine wq_aload_n q214_115 rfl ?_
      refine wq_getI q214_116 rfl rfl ?_
      rw [e14]
      refine wq_istore (ls' := [_, _, _, _, _, _]) q214_119 rfl ?_
      refine c_rtk_end ?_
      have hq := hQ hi2 60 ⟨fun a a1 a2 => (y1 a a1).trans (upC_o _ _ a2), fun j hj => y2 j hj⟩
      have ev : tkV hi (some (13 + 5 * k)) (lwS l).length (LT 0 (hi (f + 3) (v * 2)) 0 v (row 32) (row 31)) (hi (f + 2) (wl * 5)) (hi (f + 2) (sOf row to * 5 + 1)) = mx0 (mn99 (lawEv (va_up (va_up (LT 0 (hi (f + 3) (v * 2)) 0 v (row 32) (row 31)) 0 (hi (f + 2) (wl * 5))) 2 (hi (f + 2) (sOf row to * 5 + 1))) l)) := by
        unfold tkV
        dsimp only
        rw [e9, lawV_ev (pLawT_cl e8)]
      rw [ev] at hq
      exact hq
theorem bw0 {hi : Nat → Nat → Int32} {v w c : Nat} {s : Nat → Nat} {x : Int32} (h : ¬ 0 < x) : bwC hi f lw sz v row s w c x = 0 := by unfold bwC bhV; rw [if_neg h]
theorem bwC_fl {v w c : Nat} {s : Nat → Nat} {x : Int32} (h : FLs f lw hi hi') : bwC hi' f lw sz v row s w c x = bwC hi f lw sz v row s w c x := by
  unfold bwC
  rw [h.2.2.1, h.2.2.2.1, tkV_congr (fun a ha => (h.2.2.2.2 a ha).2) (fun j _ _ _ => rfl)]
/-- up -/
theorem c_rk_up {v fr : Nat} {S : Nat → Int32} (hF : RF hi f lw sz n ev wi) (hr : Wok r) (hw : RW n row (hi r)) (hv : v < ev) (hfn : fr < n) (hS : ∀ c, fr < c → c < n → S c = bwC hi f lw sz v row (sOf row) (c - 1) c (S (c - 1)))
    (K : ∀ hi' t' x4, RN hi hi' → (∀ j, fr ≤ j → j < n → hi' 73 j = S j) → (∀ j, j < fr → hi' 73 j = 0) → wq G (0, 0) (d + 34) 215 103 [some (.ref 58), some (.ref r), some (.int (nI fr)), some (.int (nI v)), x4] [] (0, 0) (HP hi' hl f dr t') Q) :
    ∀ (m c : Nat) (hi' : Nat → Nat → Int32) (t' : Nat), c + m = n → fr < c → RN hi hi' → (∀ j, fr ≤ j → j < c → hi' 73 j = S j) → (∀ j, j < n → (j < fr ∨ c ≤ j) → hi' 73 j = 0) →
    wq G (0, 0) (d + 34) 215 43 [some (.ref 58), some (.ref r), some (.int (nI fr)), some (.int (nI v)), some (.int (nI c))] [] (0, 0) (HP hi' hl f dr t') Q := by
  have hn := hF.2.1.1
  have h26 := hF.2.2.1.1
  intro m
  induction m with
  | zero =>
    intro c hi' t' hm hfc hN h1 h2
    obtain rfl : c = n := by omega
    have ec : hI (HP hi' hl f dr t') 58 26 = nI c := (hN.2 26 (by decide)).trans h26
    refine wq_iload q215_43 rfl ?_
    refine wq_aload_n q215_45 rfl ?_
    refine wq_getI q215_46 rfl rfl ?_
    refine wq_icmp_ge q215_49 (fun c49 => ?_) (fun c49 => ?_)
    · exact K hi' t' _ hN h1 (fun j hj => h2 j (by omega) (Or.inl hj))
    · rw [ec] at c49
      exact absurd (nI_le (Nat.le_refl _) (by omega)) c49
  | succ m ih =>
    intro c hi' t' hm hfc hN h1 h2
    have ec : hI (HP hi' hl f dr t') 58 26 = nI n := (hN.2 26 (by decide)).trans h26
    have e1 : nI c - 1 = nI (c - 1) := nI_m1 (by omega)
    have eS : hI (HP hi' hl f dr t') 73 (c - 1) = S (c - 1) := h1 (c - 1) (by omega) (by omega)
    have hF' := hN.mv hF
    have hfl := hN.fl hF
    have hw' : RW n row (hi' r) := by rw [hN.w hr]; exact hw
    refine wq_iload q215_43 rfl ?_
    refine wq_aload_n q215_45 rfl ?_
    refine wq_getI q215_46 rfl rfl ?_
    refine wq_icmp_ge q215_49 (fun c49 => ?_) (fun c49 => ?_)
    · rw [ec, nI_leI (by omega) (by omega)] at c49
      omega
    · refine wq_aload_n q215_52 rfl ?_
      refine wq_getR q215_53 rfl rfl rfl ?_
      refine wq_iload q215_56 rfl ?_
      refine wq_iconst q215_58 ?_
      refine wq_isub q215_59 ?_
      refine aI q215_60 rfl (e1) (by show c - 1 < 7; omega) (by first | decide | omega) ?_
      rw [eS]
      refine wq_if_le q215_61 (fun c61 => ?_) (fun c61 => ?_)
      · have hz : ∀ k, c + k < n → S (c + k) = 0 := by
          intro k
          induction k with
          | zero =>
            intro hk
            rw [hS _ (by omega) (by omega)]
            exact bw0 (Int32.not_lt.mpr c61)
          | succ k ihk =>
            intro hk
            rw [hS _ (by omega) (by omega), show c + (k + 1) - 1 = c + k by omega, ihk (by omega)]
            exact bw0 (by decide)
        refine K hi' t' _ hN (fun j j1 j2 => ?_) (fun j hj => h2 j (by omega) (Or.inl hj))
        by_cases hj : j < c
        · exact h1 j j1 hj
        · rw [h2 j j2 (Or.inr (by omega)), show j = c + (j - c) by omega, hz (j - c) (by omega)]
      · refine wq_aload_n q215_64 rfl ?_
        refine wq_getR q215_65 rfl rfl rfl ?_
        refine wq_iload q215_68 rfl ?_
        refine wq_iconst q215_70 ?_
        refine wq_aload_n q215_71 rfl ?_
        refine wq_getR q215_72 rfl rfl rfl ?_
        refine wq_iload q215_75 rfl ?_
        refine wq_iconst q215_77 ?_
        refine wq_isub q215_78 ?_
        refine aI q215_79 rfl (e1) (by show c - 1 < 7; omega) (by first | decide | omega) ?_
        rw [eS]
        refine wq_aload_n q215_80 rfl ?_
        refine wq_aload_n q215_81 rfl ?_
        refine wq_iload q215_82 rfl ?_
        refine wq_iconst q215_84 ?_
        refine wq_isub q215_85 ?_
        rw [e1]
        refine wq_iload q215_86 rfl ?_
        refine wq_iload_n q215_88 rfl ?_
        refine cV (As := [_, _, _, _]) q215_89 m_214 rfl rfl rfl ⟨by decide, rfl⟩ rfl (c_rtk (d := d) hF' hr hw' hv (by omega) (by omega) (fun hi2 t2 hq => ?_))
        have eV : mx0 (S (c - 1) - tkV hi' lw sz (LT 0 (hi' (f + 3) (v * 2)) 0 v (row 32) (row 31)) (hi' (f + 2) ((c - 1) * 5)) (hi' (f + 2) (sOf row c * 5 + 1))) = S c := by
          rw [hS c hfc (by omega), ← bwC_fl hfl]
          unfold bwC bhV
          rw [if_pos (Int32.not_le.mp c61)]
        refine wq_isub q215_92 ?_
        refine wq_max q215_93 ⟨Nat.le.refl, Nat.le.refl, Nat.le_of_ble_eq_true rfl⟩ ?_
        rw [show (if (0 : Int32) < S (c - 1) - tkV hi' lw sz (LT 0 (hi' (f + 3) (v * 2)) 0 v (row 32) (row 31)) (hi' (f + 2) ((c - 1) * 5)) (hi' (f + 2) (sOf row c * 5 + 1)) then S (c - 1) - tkV hi' lw sz (LT 0 (hi' (f + 3) (v * 2)) 0 v (row 32) (row 31)) (hi' (f + 2) ((c - 1) * 5)) (hi' (f + 2) (sOf row c * 5 + 1)) else 0) = S c from eV]
        refine sI q215_96 rfl (rfl) (by show c < 7; omega) (by first | decide | omega) rfl ?_
        refine wq_iinc (ls' := [_, _, _, _, _]) q215_97 rfl rfl ?_
        refine wq_goto q215_100 ?_
        rw [hpS, up2_C, nI_1]
        have e73 : hi2 73 = hi' 73 := hq.1 73 (by decide) (by decide)
        refine ih (c + 1) _ t2 (by omega) (by omega) ((hN.tr hq.rn).up _) (fun j j1 j2 => ?_) (fun j j1 j2 => ?_)
        · rw [upC_s]
          by_cases hj : j = c
          · rw [hj, vu_s]
          · rw [vu_o _ _ hj, e73]
            exact h1 j j1 (by omega)
        · rw [upC_s, vu_o _ _ (by omega), e73]
          exact h2 j j1 (by omega)
/-- down -/
theorem c_rk_down {v fr : Nat} {S : Nat → Int32} (hF : RF hi f lw sz n ev wi) (hr : Wok r) (hw : RW n row (hi r)) (hv : v < ev) (hfn : fr < n) (hS : ∀ c, c < fr → S c = bwC hi f lw sz v row (sOf row) c c (S (c + 1)))
    (hQ : ∀ hi' t', RN hi hi' → (∀ j, j < n → hi' 73 j = S j) → Q none (HP hi' hl f dr t')) :
    ∀ (k : Nat) (hi' : Nat → Nat → Int32) (t' : Nat), k ≤ fr → RN hi hi' → (∀ j, k ≤ j → j < n → hi' 73 j = S j) → (∀ j, j < k → hi' 73 j = 0) →
    wq G (0, 0) (d + 34) 215 108 [some (.ref 58), some (.ref r), some (.int (nI fr)), some (.int (nI v)), some (.int (nI k - 1))] [] (0, 0) (HP hi' hl f dr t') Q := by
  have hn := hF.2.1.1
  intro k
  induction k with
  | zero =>
    intro hi' t' hk hN h1 h2
    refine wq_iload q215_108 rfl ?_
    refine wq_if_lt q215_110 (fun c110 => ?_) (fun c110 => ?_)
    · refine rV q215_162 ?_
      exact hQ hi' t' hN (fun j hj => h1 j (by omega) hj)
    · exact absurd (by decide) c110
  | succ k ih =>
    intro hi' t' hk hN h1 h2
    have e1 : nI (k + 1) - 1 = nI k := nI_pred k
    have e2 : nI k + 1 = nI (k + 1) := nI_1 k
    have eS : hI (HP hi' hl f dr t') 73 (k + 1) = S (k + 1) := h1 (k + 1) (by omega) (by omega)
    have hF' := hN.mv hF
    have hfl := hN.fl hF
    have hw' : RW n row (hi' r) := by rw [hN.w hr]; exact hw
    rw [e1]
    refine wq_iload q215_108 rfl ?_
    refine wq_if_lt q215_110 (fun c110 => ?_) (fun c110 => ?_)
    · exact absurd c110 (nI_pos (by omega))
    · refine wq_aload_n q215_113 rfl ?_
      refine wq_getR q215_114 rfl rfl rfl ?_
      refine wq_iload q215_117 rfl ?_
      refine wq_iconst q215_119 ?_
      refine wq_iadd q215_120 ?_
      refine aI q215_121 rfl (e2) (by show k + 1 < 7; omega) (by first | decide | omega) ?_
      rw [eS]
      refine wq_if_le q215_122 (fun c122 => ?_) (fun c122 => ?_)
      · have hz : ∀ i, i ≤ k → S (k - i) = 0 := by
          intro i
          induction i with
          | zero =>
            intro _
            rw [hS _ (by omega)]
            exact bw0 (Int32.not_lt.mpr c122)
          | succ i ihi =>
            intro hik
            rw [hS _ (by omega), show k - (i + 1) + 1 = k - i by omega, ihi (by omega)]
            exact bw0 (by decide)
        refine rV q215_162 ?_
        refine hQ hi' t' hN (fun j hj => ?_)
        by_cases hjk : k + 1 ≤ j
        · exact h1 j hjk hj
        · rw [h2 j (by omega), show j = k - (k - j) by omega, hz (k - j) (by omega)]
      · refine wq_aload_n q215_125 rfl ?_
        refine wq_getR q215_126 rfl rfl rfl ?_
        refine wq_iload q215_129 rfl ?_
        refine wq_iconst q215_131 ?_
        refine wq_aload_n q215_132 rfl ?_
        refine wq_getR q215_133 rfl rfl rfl ?_
        refine wq_iload q215_136 rfl ?_
        refine wq_iconst q215_138 ?_
        refine wq_iadd q215_139 ?_
        refine aI q215_140 rfl (e2) (by show k + 1 < 7; omega) (by first | decide | omega) ?_
        rw [eS]
        refine wq_aload_n q215_141 rfl ?_
        refine wq_aload_n q215_142 rfl ?_
        refine wq_iload q215_143 rfl ?_
        refine wq_iload q215_145 rfl ?_
        refine wq_iload_n q215_147 rfl ?_
        refine cV (As := [_, _, _, _]) q215_148 m_214 rfl rfl rfl ⟨by decide, rfl⟩ rfl (c_rtk (d := d) hF' hr hw' hv (by omega) (by omega) (fun hi2 t2 hq => ?_))
        have eV : mx0 (S (k + 1) - tkV hi' lw sz (LT 0 (hi' (f + 3) (v * 2)) 0 v (row 32) (row 31)) (hi' (f + 2) (k * 5)) (hi' (f + 2) (sOf row k * 5 + 1))) = S k := by
          rw [hS k (by omega), ← bwC_fl hfl]
          unfold bwC bhV
          rw [if_pos (Int32.not_le.mp c122)]
        refine wq_isub q215_151 ?_
        refine wq_max q215_152 ⟨Nat.le.refl, Nat.le.refl, Nat.le_of_ble_eq_true rfl⟩ ?_
        rw [show (if (0 : Int32) < S (k + 1) - tkV hi' lw sz (LT 0 (hi' (f + 3) (v * 2)) 0 v (row 32) (row 31)) (hi' (f + 2) (k * 5)) (hi' (f + 2) (sOf row k * 5 + 1)) then S (k + 1) - tkV hi' lw sz (LT 0 (hi' (f + 3) (v * 2)) 0 v (row 32) (row 31)) (hi' (f + 2) (k * 5)) (hi' (f + 2) (sOf row k * 5 + 1)) else 0) = S k from eV]
        refine sI q215_155 rfl (rfl) (by show k < 7; omega) (by first | decide | omega) rfl ?_
        refine wq_iinc (ls' := [_, _, _, _, _]) q215_156 rfl rfl ?_
        refine wq_goto q215_159 ?_
        rw [hpS, up2_C, i32_m1]
        have e73 : hi2 73 = hi' 73 := hq.1 73 (by decide) (by decide)
        refine ih _ t2 (by omega) ((hN.tr hq.rn).up _) (fun j j1 j2 => ?_) (fun j j1 => ?_)
        · rw [upC_s]
          by_cases hj : j = k
          · rw [hj, vu_s]
          · rw [vu_o _ _ hj, e73]
            exact h1 j (by omega) j2
        · rw [upC_s, vu_o _ _ (by omega), e73]
          exact h2 j (by omega)
theorem c_rk_zero {v fr : Nat} (hn : n ≤ 7) (h26 : hi 58 26 = nI n) (K : ∀ Z x4, (∀ j, j < n → Z j = 0) → wq G (0, 0) (d + 34) 215 26 [some (.ref 58), some (.ref r), some (.int (nI fr)), some (.int (nI v)), x4] [] (0, 0) (HP (upC hi 73 Z) hl f dr t) Q) : ∀ (m k : Nat) (Z : Nat → Int32), k + m = n → (∀ j, j < k → Z j = 0) →
    wq G (0, 0) (d + 34) 215 3 [some (.ref 58), some (.ref r), some (.int (nI fr)), some (.int (nI v)), some (.int (nI k))] [] (0, 0) (HP (upC hi 73 Z) hl f dr t) Q := by
  have ec : ∀ Z, hI (HP (upC hi 73 Z) hl f dr t) 58 26 = nI n := fun _ => h26
  intro m
  induction m with
  | zero =>
    intro k Z hm hZ
    obtain rfl : k = n := by omega
    refine wq_iload q215_3 rfl ?_
    refine wq_aload_n q215_5 rfl ?_
    refine wq_getI q215_6 rfl rfl ?_
    refine wq_icmp_ge q215_9 (fun c9 => ?_) (fun c9 => ?_)
    · exact K Z _ hZ
    · rw [ec] at c9
      exact absurd (nI_le (Nat.le_refl _) (by omega)) c9
  | succ m ih =>
    intro k Z hm hZ
    refine wq_iload q215_3 rfl ?_
    refine wq_aload_n q215_5 rfl ?_
    refine wq_getI q215_6 rfl rfl ?_
    refine wq_icmp_ge q215_9 (fun c9 => ?_) (fun c9 => ?_)
    · rw [ec, nI_leI (by omega) (by omega)] at c9
      omega
    · refine wq_aload_n q215_12 rfl ?_
      refine wq_getR q215_13 rfl rfl rfl ?_
      refine wq_iload q215_16 rfl ?_
      refine wq_iconst q215_18 ?_
      refine sI q215_19 rfl (rfl) (by show k < 7; omega) (by first | decide | omega) rfl ?_
      refine wq_iinc (ls' := [_, _, _, _, _]) q215_20 rfl rfl ?_
      refine wq_goto q215_23 ?_
      rw [hpS, up2_C, upC_s, upC_C, nI_1]
      refine ih (k + 1) _ (by omega) (fun j hj => ?_)
      by_cases h : j = k
      · rw [h, vu_s]
      · rw [vu_o _ _ h]
        exact hZ j (by omega)
/-- how knocks of an event spread from a cell -/
theorem c_rknocks {v fr : Nat} (hF : RF hi f lw sz n ev wi) (hr : Wok r) (hw : RW n row (hi r)) (hv : v < ev) (hfn : fr < n)
    (hQ : ∀ hi' t', RN hi hi' → (∀ c, c < n → hi' 73 c = spV hi f lw sz v row (sOf row) fr c) → Q none (HP hi' hl f dr t')) :
    Ct G (0, 0) (d + 34) 215 [.ref 58, .ref r, .int (nI fr), .int (nI v)] (HP hi hl f dr t) Q := by
  have hn := hF.2.1.1
  have h26 := hF.2.2.1.1
  refine Ct_of (ls := [_, _, _, _, _]) m_215.1.2.2.1 (Nat.le_of_ble_eq_true rfl) rfl ?_
  refine wq_iconst q215_0 ?_
  refine wq_istore (ls' := [_, _, _, _, _]) q215_1 rfl ?_
  rw [← upC_self hi 73 rfl]
  refine c_rk_zero hn h26 (fun Z _ hZ => ?_) n 0 _ (by omega) (fun j hj => by omega)
  have e1 : hI (HP (upC hi 73 Z) hl f dr t) 63 1 = hi (f + 1) 1 := hF.2.2.1.2.2.1 1 (by decide)
  refine wq_aload_n q215_26 rfl ?_
  refine wq_getR q215_27 rfl rfl rfl ?_
  refine wq_iload_n q215_30 rfl ?_
  refine wq_aload_n q215_31 rfl ?_
  refine wq_getR q215_32 rfl rfl rfl ?_
  refine wq_iconst q215_35 ?_
  refine aI q215_36 rfl ((show (1 : Int32) = nI 1 from rfl)) (by decide) (by first | decide | omega) ?_
  rw [e1]
  refine sI q215_37 rfl (rfl) (by show fr < 7; omega) (by first | decide | omega) rfl ?_
  rw [hpS, up2_C, upC_s, upC_C]
  refine wq_iload_n q215_38 rfl ?_
  refine wq_iconst q215_39 ?_
  refine wq_iadd q215_40 ?_
  refine wq_istore (ls' := [_, _, _, _, _]) q215_41 rfl ?_
  rw [nI_1]
  have hs0 : spV hi f lw sz v row (sOf row) fr fr = hi (f + 1) 1 := by
    unfold spV spC
    rw [if_pos (Nat.le_refl _), Nat.sub_self]
    rfl
  refine c_rk_up (S := spV hi f lw sz v row (sOf row) fr) hF hr hw hv hfn (fun c c1 c2 => spC_up c1) (fun hi' t' x4 hN h1 h2 => ?_) (n - (fr + 1)) (fr + 1) _ t (by omega) (by omega) (RN.rf.up _) (fun j j1 j2 => ?_) (fun j j1 j2 => ?_)
  · refine wq_iload_n q215_103 rfl ?_
    refine wq_iconst q215_104 ?_
    refine wq_isub q215_105 ?_
    refine wq_istore (ls' := [_, _, _, _, _]) q215_106 rfl ?_
    exact c_rk_down hF hr hw hv hfn (fun c c1 => spC_down c1) hQ fr hi' t' (Nat.le_refl _) hN h1 h2
  · obtain rfl : j = fr := by omega
    rw [upC_s, vu_s, hs0]
  · rw [upC_s, vu_o _ _ (by omega)]
    exact hZ j j1
end REFKNOCK
