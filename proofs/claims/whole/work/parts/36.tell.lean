/-! TELLING: hearers, hear, tellAll -/
/-- who hears: bits -/
def hrR (st row : Nat → Int32) (fr : Nat) : Nat → Nat → Int32 → Int32
  | 0, _, b => b
  | m + 1, c, b => hrR st row fr m (c + 1) (if c ≠ fr ∧ 0 < st c then b ||| (1 <<< (row c &&& 31)) else b)
section TELL
variable {G : ph_G} {d a r n f dr t sz : Nat} {hi : Nat → Nat → Int32} {hl : Nat → Nat → Int64} {Q : Option Value → ph_H → Prop} {lw : Option Nat}
theorem c_hearers_loop {fr : Nat} (hf : Fok f) (hs : Sok a r) (hn : n ≤ 7) (hfr : fr < 7) (hc : hi f 3 = nI n) : ∀ (m c : Nat) (b : Int32), c + m = n → Q (some (.int (hrR (hi 51) (hi r) fr m c b))) (HP hi hl f dr t) →
    wq G (0, 0) d 30 6 [some (.ref 50), some (.ref f), some (.ref a), some (.int (nI fr)), some (.int b), some (.int (nI c))] [] (0, 0) (HP hi hl f dr t) Q := by
  obtain ⟨f1, f2, f3, f4, f5, f6, f7⟩ := hf.frt hi hl f dr t
  obtain ⟨s1, s2, s3, s4⟩ := hs.scn hi hl f dr t
  have e1 : hI (HP hi hl f dr t) f 3 = nI n := hc
  intro m
  induction m with
  | zero =>
    intro c b hm hQ
    refine wq_iload q30_6 rfl ?_
    refine wq_aload_n q30_8 rfl ?_
    refine wq_getI q30_9 (by first | exact f1 | rfl) rfl ?_
    refine wq_icmp_ge q30_12 (fun c12 => ?_) (fun c12 => ?_)
    · refine wq_iload q30_53 rfl ?_
      refine rI q30_55 rfl ?_
      exact hQ
    · rw [e1, nI_leI (by omega) (by omega)] at c12
      omega
  | succ m ih =>
    intro c b hm hQ
    rw [hrR] at hQ
    refine wq_iload q30_6 rfl ?_
    refine wq_aload_n q30_8 rfl ?_
    refine wq_getI q30_9 (by first | exact f1 | rfl) rfl ?_
    refine wq_icmp_ge q30_12 (fun c12 => ?_) (fun c12 => ?_)
    · rw [e1, nI_leI (by omega) (by omega)] at c12
      omega
    · refine wq_iload q30_15 rfl ?_
      refine wq_iload_n q30_17 rfl ?_
      refine wq_icmp_eq q30_18 (fun c18 => ?_) (fun c18 => ?_)
      · rw [nI_eq (by omega) (by omega)] at c18
        rw [if_neg (fun z => z.1 c18)] at hQ
        refine wq_iinc (ls' := [_, _, _, _, _, _]) q30_47 rfl rfl ?_
        refine wq_goto q30_50 ?_
        rw [nI_1]
        exact ih (c + 1) b (by omega) hQ
      · rw [nI_eq (by omega) (by omega)] at c18
        refine wq_aload_n q30_21 rfl ?_
        refine wq_getR q30_22 rfl rfl rfl ?_
        refine wq_iload q30_25 rfl ?_
        refine aI q30_27 rfl (rfl) (by show c < 7; omega) (by first | decide | omega) ?_
        refine wq_if_le q30_28 (fun c28 => ?_) (fun c28 => ?_)
        · rw [if_neg (fun z => absurd z.2 (Int32.not_lt.mpr c28))] at hQ
          refine wq_iinc (ls' := [_, _, _, _, _, _]) q30_47 rfl rfl ?_
          refine wq_goto q30_50 ?_
          rw [nI_1]
          exact ih (c + 1) b (by omega) hQ
        · rw [if_pos ⟨c18, Int32.not_le.mp c28⟩] at hQ
          refine wq_iload q30_31 rfl ?_
          refine wq_iconst q30_33 ?_
          refine wq_aload_n q30_34 rfl ?_
          refine wq_getR q30_35 (by first | exact s1 | exact s2 | exact s3 | rfl) rfl (by first | exact s1 | exact s2 | exact s3 | rfl) ?_
          refine wq_iconst q30_38 ?_
          refine wq_iload q30_39 rfl ?_
          refine wq_iadd q30_41 ?_
          refine aI q30_42 (by first | exact s1 | exact s2 | exact s3 | rfl) ((by rw [show (0 : Int32) = nI 0 from rfl, nI_add, Nat.zero_add])) (by omega) (by first | decide | omega) ?_
          refine wq_ishl q30_43 ?_
          refine wq_ior q30_44 ?_
          refine wq_istore (ls' := [_, _, _, _, _, _]) q30_45 rfl ?_
          refine wq_iinc (ls' := [_, _, _, _, _, _]) q30_47 rfl rfl ?_
          refine wq_goto q30_50 ?_
          rw [nI_1]
          exact ih (c + 1) _ (by omega) hQ
theorem c_hearers {fr : Nat} (hf : Fok f) (hs : Sok a r) (hn : n ≤ 7) (hfr : fr < 7) (hc : hi f 3 = nI n) (hQ : Q (some (.int (hrR (hi 51) (hi r) fr n 0 0))) (HP hi hl f dr t)) : Ct G (0, 0) d 30 [.ref 50, .ref f, .ref a, .int (nI fr)] (HP hi hl f dr t) Q := by
  refine Ct_of (ls := [_, _, _, _, _, _]) m_30.1.2.2.1 (Nat.le_of_ble_eq_true rfl) rfl ?_
  refine wq_iconst q30_0 ?_
  refine wq_istore (ls' := [_, _, _, _, _, _]) q30_1 rfl ?_
  refine wq_iconst q30_3 ?_
  refine wq_istore (ls' := [_, _, _, _, _, _]) q30_4 rfl ?_
  exact c_hearers_loop hf hs hn hfr hc n 0 0 (by omega) hQ
/-- what is heard by whom, what is known, what is paid -/
def heS (bits : Int32) (v te : Nat) (cost : Int32) (p : Nat) (x : (Nat → Int32) × (Nat → Int32)) : (Nat → Int32) × (Nat → Int32) :=
  if (bits >>> (nI p &&& 31)) &&& 1 = 1 then (va_up x.1 p (x.1 p ||| (1 <<< (nI v &&& 31))), payR (va_up x.2 (21 + p) (x.2 (21 + p) ||| (1 <<< (nI v &&& 31)))) p te cost) else x
def heR (bits : Int32) (v te : Nat) (cost : Int32) : Nat → Nat → (Nat → Int32) × (Nat → Int32) → (Nat → Int32) × (Nat → Int32)
  | 0, _, x => x
  | m + 1, p, x => heR bits v te cost m (p + 1) (heS bits v te cost p x)
theorem HP52 (hi : Nat → Nat → Int32) (r : Nat) (hr : r ≠ 52) (F F' x : Nat → Int32) : upC (upC (upC hi 52 F) r F') 52 x = upC (upC hi 52 x) r F' := by
  rw [upC_comm _ _ _ hr, upC_C]
theorem c_hear2_loop {v te : Nat} {bits cost : Int32} (hs : Sok a r) (hte : te < 7) : ∀ (m p : Nat) (x : (Nat → Int32) × (Nat → Int32)), p + m = 7 → Q none (HP (upC (upC hi 52 (heR bits v te cost m p x).1) r (heR bits v te cost m p x).2) hl f dr t) →
    wq G (0, 0) (d + 1) 32 3 [some (.ref 50), some (.ref a), some (.int (nI v)), some (.int bits), some (.int (nI te)), some (.int cost), some (.int (nI p))] [] (0, 0) (HP (upC (upC hi 52 x.1) r x.2) hl f dr t) Q := by
  have hr : r ≠ 52 := by rcases hs with ⟨-, rfl⟩ | ⟨-, rfl⟩ | ⟨-, rfl⟩ <;> decide
  have hs' := fun hi => hs.scn hi hl f dr t
  intro m
  induction m with
  | zero =>
    intro p x hm hQ
    refine wq_iload q32_3 rfl ?_
    refine wq_bipush q32_5 ?_
    refine wq_icmp_ge q32_7 (fun c7 => ?_) (fun c7 => ?_)
    · refine rV q32_65 ?_
      exact hQ
    · rw [show (7 : Int32) = nI 7 from rfl, nI_leI (by omega) (by omega)] at c7
      omega
  | succ m ih =>
    intro p x hm hQ
    rw [heR] at hQ
    obtain ⟨s1, s2, s3, s4⟩ := hs.scn hi hl f dr t
    refine wq_iload q32_3 rfl ?_
    refine wq_bipush q32_5 ?_
    refine wq_icmp_ge q32_7 (fun c7 => ?_) (fun c7 => ?_)
    · rw [show (7 : Int32) = nI 7 from rfl, nI_leI (by omega) (by omega)] at c7
      omega
    · refine wq_iload_n q32_10 rfl ?_
      refine wq_iload q32_11 rfl ?_
      refine wq_ishr q32_13 ?_
      refine wq_iconst q32_14 ?_
      refine wq_iand q32_15 ?_
      refine wq_iconst q32_16 ?_
      refine wq_icmp_ne q32_17 (fun c17 => ?_) (fun c17 => ?_)
      · refine wq_iinc (ls' := [_, _, _, _, _, _, _]) q32_59 rfl rfl ?_
        refine wq_goto q32_62 ?_
        rw [nI_1]
        have e : heS bits v te cost p x = x := by unfold heS; rw [if_neg c17]
        rw [e] at hQ
        exact ih (p + 1) x (by omega) hQ
      · have g1 : hI (HP (upC (upC hi 52 x.1) r x.2) hl f dr t) 52 = x.1 := by
          show upC (upC hi 52 x.1) r x.2 52 = x.1
          rw [upC_o _ _ hr.symm, upC_s]
        refine wq_aload_n q32_20 rfl ?_
        refine wq_getR q32_21 rfl rfl rfl ?_
        refine wq_iload q32_24 rfl ?_
        refine wq_dup2 q32_26 rfl rfl ?_
        refine aI q32_27 rfl (rfl) (by show p < 7; omega) (by first | decide | omega) ?_
        refine wq_iconst q32_28 ?_
        refine wq_iload_n q32_29 rfl ?_
        refine wq_ishl q32_30 ?_
        refine wq_ior q32_31 ?_
        refine sI q32_32 rfl (rfl) (by show p < 7; omega) (by first | decide | omega) rfl ?_
        rw [stI_C, g1, hpC, HP52 _ _ hr]
        have g2 : ∀ y, hI (HP (upC (upC hi 52 y) r x.2) hl f dr t) r = x.2 := fun y => upC_s _ _ _
        refine wq_aload_n q32_33 rfl ?_
        refine wq_getR q32_34 (by first | exact s1 | exact s2 | exact s3 | rfl) rfl (by first | exact s1 | exact s2 | exact s3 | rfl) ?_
        refine wq_bipush q32_37 ?_
        refine wq_iload q32_39 rfl ?_
        refine wq_iadd q32_41 ?_
        refine wq_dup2 q32_42 rfl rfl ?_
        refine aI q32_43 (by first | exact s1 | exact s2 | exact s3 | rfl) (nI_add 21 _) (by omega) (by first | decide | omega) ?_
        refine wq_iconst q32_44 ?_
        refine wq_iload_n q32_45 rfl ?_
        refine wq_ishl q32_46 ?_
        refine wq_ior q32_47 ?_
        refine sI q32_48 (by first | exact s1 | exact s2 | exact s3 | rfl) (nI_add 21 _) (by omega) (by first | decide | omega) (by first | exact s1 | exact s2 | exact s3 | rfl) ?_
        rw [stI_C, g2, hpC, upC_C]
        refine wq_aload_n q32_49 rfl ?_
        refine wq_iload q32_50 rfl ?_
        refine wq_iload q32_52 rfl ?_
        refine wq_iload q32_54 rfl ?_
        refine cV (As := [_, _, _]) q32_56 m_61 rfl rfl (by first | exact s1 | rfl) ⟨by decide, rfl⟩ rfl (c_pay (by exact hs' _) (by omega) hte ?_)
        refine wq_iinc (ls' := [_, _, _, _, _, _, _]) q32_59 rfl rfl ?_
        refine wq_goto q32_62 ?_
        rw [nI_1]
        have g3 : ∀ y z, hI (HP (upC (upC hi 52 y) r z) hl f dr t) r = z := fun y z => upC_s _ _ _
        rw [g3, hpC, upC_C]
        have e : heS bits v te cost p x = (va_up x.1 p (x.1 p ||| (1 <<< (nI v &&& 31))), payR (va_up x.2 (21 + p) (x.2 (21 + p) ||| (1 <<< (nI v &&& 31)))) p te cost) := by unfold heS; rw [if_pos c17]
        rw [e] at hQ
        exact ih (p + 1) (va_up x.1 p (x.1 p ||| (1 <<< (nI v &&& 31))), payR (va_up x.2 (21 + p) (x.2 (21 + p) ||| (1 <<< (nI v &&& 31)))) p te cost) (by omega) hQ
theorem c_hear2 {v te : Nat} {bits cost : Int32} (hs : Sok a r) (hte : te < 7) (hQ : Q none (HP (upC (upC hi 52 (heR bits v te cost 7 0 (hi 52, hi r)).1) r (heR bits v te cost 7 0 (hi 52, hi r)).2) hl f dr t)) : Ct G (0, 0) (d + 1) 32 [.ref 50, .ref a, .int (nI v), .int bits, .int (nI te), .int cost] (HP hi hl f dr t) Q := by
  refine Ct_of (ls := [_, _, _, _, _, _, _]) m_32.1.2.2.1 (Nat.le_of_ble_eq_true rfl) rfl ?_
  refine wq_iconst q32_0 ?_
  refine wq_istore (ls' := [_, _, _, _, _, _, _]) q32_1 rfl ?_
  have := c_hear2_loop (G := G) (d := d) (hi := hi) (hl := hl) (f := f) (dr := dr) (t := t) hs hte 7 0 (hi 52, hi r) (by omega) hQ
  rw [upC_self hi 52 rfl, upC_self hi r rfl] at this
  exact this
end TELL
