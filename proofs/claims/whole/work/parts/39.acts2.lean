/-! THE CLASS: what can be, what changes -/
def canB (hi : Nat → Nat → Int32) (f : Nat) (row : Nat → Int32) (n : Nat) (kd fi se : Int32) : Bool :=
  decide (0 < hi f 3) && (if kd = 0 then inB fi (hi f 4) && !decide ((row 28 >>> (fi &&& 31)) &&& 1 = 1) else if kd = 1 then inB fi (hi f 3) && inB se (hi f 3) && !decide (fi = se) else if kd = 2 then decide (row 30 = 0) && decide (row 31 < hi (f + 1) 2) else if kd = 3 then decide (2 ≤ row (7 + riR (fun i => row (7 + i)) (n - 1) 1 0)) else decide (row 32 < 9999))
theorem b01 {b : Bool} {c : Prop} [Decidable c] (h : b = decide c) : (if b = true then (1 : Int32) else 0) = if c then 1 else 0 := by subst h; by_cases hc : c <;> simp [hc]
theorem i01 {c : Bool} (h : (if c = true then (1 : Int32) else 0) = 0) : c = false := by
  cases c with
  | false => rfl
  | true => exact absurd h (by decide)
theorem i10 {c : Bool} (h : ¬ (if c = true then (1 : Int32) else 0) = 0) : c = true := by
  cases c with
  | true => rfl
  | false => exact absurd rfl h
theorem p01 {c : Prop} [Decidable c] (h : (if c then (1 : Int32) else 0) = 0) : ¬ c := by
  intro z; rw [if_pos z] at h; exact absurd h (by decide)
theorem p10 {c : Prop} [Decidable c] (h : ¬ (if c then (1 : Int32) else 0) = 0) : c := by
  by_cases z : c
  · exact z
  · rw [if_neg z] at h; exact absurd rfl h
section ACTS2
variable {G : ph_G} {d a r n f dr t sz : Nat} {hi : Nat → Nat → Int32} {hl : Nat → Nat → Int64} {Q : Option Value → ph_H → Prop} {lw : Option Nat}
theorem riR_7 {b : Nat → Int32} (hn : n ≤ 7) : riR b (n - 1) 1 0 < 7 := by
  have := riR_lt (b := b) (n - 1) 1 0 (Or.inr rfl) (by omega)
  omega
theorem c_canBe {kd fi se : Int32} (hf : Fok f) (hs : Sok a r) (hn : n ≤ 7) (hc : hi f 3 = nI n) (hQ : Q (some (.int (if canB hi f (hi r) n kd fi se = true then 1 else 0))) (HP hi hl f dr t)) : Ct G (0, 0) (d + 1) 121 [.ref 0, .ref a, .int kd, .int fi, .int se] (HP hi hl f dr t) Q := by
  have hF := hf.frt hi hl f dr t
  have hS := hs.scn hi hl f dr t
  obtain ⟨f1, -⟩ := hf.frt hi hl f dr t
  obtain ⟨s1, s2, s3, s4⟩ := hs.scn hi hl f dr t
  have ec : hI (HP hi hl f dr t) f 3 = nI n := hc
  have zero : ∀ {pc npc : Nat} {ls : List (Option Value)}, canB hi f (hi r) n kd fi se = false → (qD 121 pc .ireturn 1 npc ∧ mR 121 = some .boolean) → wq G (0, 0) (d + 1) 121 pc ls [.int 0] (0, 0) (HP hi hl f dr t) Q := by
    intro pc npc ls hb q
    rw [hb] at hQ
    exact rI q rfl hQ
  have one : ∀ {pc npc : Nat} {ls : List (Option Value)}, canB hi f (hi r) n kd fi se = true → (qD 121 pc .ireturn 1 npc ∧ mR 121 = some .boolean) → wq G (0, 0) (d + 1) 121 pc ls [.int 1] (0, 0) (HP hi hl f dr t) Q := by
    intro pc npc ls hb q
    rw [hb] at hQ
    exact rI q rfl hQ
  refine Ct_of (ls := [_, _, _, _, _]) m_121.1.2.2.1 (Nat.le_of_ble_eq_true rfl) rfl ?_
  refine wq_aload_n q121_0 rfl ?_
  refine cV (As := []) q121_1 m_102 rfl rfl rfl ⟨by decide, rfl⟩ rfl (c_hasFort hf ?_)
  refine wq_if_ne q121_4 (fun c4 => ?_) (fun c4 => ?_)
  · have h0 := p10 c4
    refine wq_iload_n q121_9 rfl ?_
    refine wq_switch q121_10 [40, 62, 91, 124] (by decide) (fun c10 => ?_) (fun i t ht c10 => ?_)
    · have hk : ∀ v : Int32, 0 ≤ v.toInt → v.toInt ≤ 3 → ¬ kd = v := fun v h1 h2 z => by subst z; omega
      have hb : canB hi f (hi r) n kd fi se = decide (hi r 32 < 9999) := by
        unfold canB
        rw [if_neg (hk 0 (by decide) (by decide)), if_neg (hk 1 (by decide) (by decide)), if_neg (hk 2 (by decide) (by decide)), if_neg (hk 3 (by decide) (by decide))]
        simp [h0]
      refine wq_aload_n q121_153 rfl ?_
      refine wq_getR q121_154 (by first | exact s1 | exact s2 | exact s3 | rfl) rfl (by first | exact s1 | exact s2 | exact s3 | rfl) ?_
      refine wq_bipush q121_157 ?_
      refine aI q121_159 (by first | exact s1 | exact s2 | exact s3 | rfl) (rfl) (by decide) (by first | decide | omega) ?_
      refine wq_sipush q121_160 ?_
      refine wq_icmp_ge q121_163 (fun c163 => ?_) (fun c163 => ?_)
      · refine wq_iconst q121_170 ?_
        exact zero (hb.trans (decide_eq_false (Int32.not_lt.mpr c163))) q121_171
      · refine wq_iconst q121_166 ?_
        refine wq_goto q121_167 ?_
        exact one (hb.trans (decide_eq_true (Int32.not_le.mp c163))) q121_171
    · match i, ht, c10 with
      | 0, ht, c10 =>
        cases ht
        obtain rfl : kd = (0 : Int32) := Int32.toInt_inj.mp (by rw [c10]; rfl)
        have hb : canB hi f (hi r) n 0 fi se = (inB fi (hi f 4) && !decide ((hi r 28 >>> (fi &&& 31)) &&& 1 = 1)) := by
          unfold canB
          simp [h0]
        refine wq_aload_n q121_40 rfl ?_
        refine wq_iload_n q121_41 rfl ?_
        refine cV (As := [_]) q121_42 m_105 rfl rfl rfl ⟨by decide, rfl⟩ rfl (c_isEvent hf ?_)
        refine wq_if_eq q121_45 (fun c45 => ?_) (fun c45 => ?_)
        · have c := i01 c45
          refine wq_iconst q121_60 ?_
          exact zero (by rw [hb, c]; rfl) q121_61
        · have c := i10 c45
          refine wq_aload_n q121_48 rfl ?_
          refine wq_iload_n q121_49 rfl ?_
          refine cV (As := [_]) q121_50 m_56 rfl rfl (by first | exact s1 | rfl) ⟨by decide, rfl⟩ rfl (c_sees hS ?_)
          refine wq_if_ne q121_53 (fun c53 => ?_) (fun c53 => ?_)
          · have c2 : (hi r 28 >>> (fi &&& 31)) &&& 1 = 1 := p10 c53
            refine wq_iconst q121_60 ?_
            exact zero (by rw [hb, c, decide_eq_true c2]; rfl) q121_61
          · have c2 : ¬ (hi r 28 >>> (fi &&& 31)) &&& 1 = 1 := p01 c53
            refine wq_iconst q121_56 ?_
            refine wq_goto q121_57 ?_
            exact one (by rw [hb, c, decide_eq_false c2]; rfl) q121_61
      | 1, ht, c10 =>
        cases ht
        obtain rfl : kd = (1 : Int32) := Int32.toInt_inj.mp (by rw [c10]; rfl)
        have hb : canB hi f (hi r) n 1 fi se = (inB fi (hi f 3) && inB se (hi f 3) && !decide (fi = se)) := by
          unfold canB
          rw [if_neg (by decide), if_pos rfl]
          simp [h0]
        refine wq_aload_n q121_62 rfl ?_
        refine wq_iload_n q121_63 rfl ?_
        refine cV (As := [_]) q121_64 m_103 rfl rfl rfl ⟨by decide, rfl⟩ rfl (c_isPrisoner hf ?_)
        refine wq_if_eq q121_67 (fun c67 => ?_) (fun c67 => ?_)
        · have c := i01 c67
          refine wq_iconst q121_89 ?_
          exact zero (by rw [hb, c]; rfl) q121_90
        · have c := i10 c67
          refine wq_aload_n q121_70 rfl ?_
          refine wq_iload q121_71 rfl ?_
          refine cV (As := [_]) q121_73 m_103 rfl rfl rfl ⟨by decide, rfl⟩ rfl (c_isPrisoner hf ?_)
          refine wq_if_eq q121_76 (fun c76 => ?_) (fun c76 => ?_)
          · have c2 := i01 c76
            refine wq_iconst q121_89 ?_
            exact zero (by rw [hb, c, c2]; rfl) q121_90
          · have c2 := i10 c76
            refine wq_iload_n q121_79 rfl ?_
            refine wq_iload q121_80 rfl ?_
            refine wq_icmp_eq q121_82 (fun c82 => ?_) (fun c82 => ?_)
            · refine wq_iconst q121_89 ?_
              exact zero (by rw [hb, c, c2, decide_eq_true c82]; rfl) q121_90
            · refine wq_iconst q121_85 ?_
              refine wq_goto q121_86 ?_
              exact one (by rw [hb, c, c2, decide_eq_false c82]; rfl) q121_90
      | 2, ht, c10 =>
        cases ht
        obtain rfl : kd = (2 : Int32) := Int32.toInt_inj.mp (by rw [c10]; rfl)
        have hb : canB hi f (hi r) n 2 fi se = (decide (hi r 30 = 0) && decide (hi r 31 < hi (f + 1) 2)) := by
          unfold canB
          rw [if_neg (by decide), if_neg (by decide), if_pos rfl]
          simp [h0]
        refine wq_aload_n q121_91 rfl ?_
        refine wq_getR q121_92 (by first | exact s1 | exact s2 | exact s3 | rfl) rfl (by first | exact s1 | exact s2 | exact s3 | rfl) ?_
        refine wq_bipush q121_95 ?_
        refine aI q121_97 (by first | exact s1 | exact s2 | exact s3 | rfl) (rfl) (by decide) (by first | decide | omega) ?_
        refine wq_if_ne q121_98 (fun c98 => ?_) (fun c98 => ?_)
        · refine wq_iconst q121_122 ?_
          exact zero (by rw [hb, decide_eq_false (show ¬ hi r 30 = 0 from c98)]; rfl) q121_123
        · refine wq_aload_n q121_101 rfl ?_
          refine wq_getR q121_102 (by first | exact s1 | exact s2 | exact s3 | exact f1 | rfl) rfl (by first | exact s1 | exact s2 | exact s3 | exact f1 | rfl) ?_
          refine wq_bipush q121_105 ?_
          refine aI q121_107 (by first | exact s1 | exact s2 | exact s3 | exact f1 | rfl) (rfl) (by decide) (by first | decide | omega) ?_
          refine wq_aload_n q121_108 rfl ?_
          refine wq_getR q121_109 (by first | exact s1 | exact s2 | exact s3 | exact f1 | rfl) rfl (by first | exact s1 | exact s2 | exact s3 | exact f1 | rfl) ?_
          refine cV (As := []) q121_112 m_18 rfl rfl (by first | exact s1 | exact s2 | exact s3 | exact f1 | rfl) ⟨by decide, rfl⟩ rfl (c_worn hF ?_)
          refine wq_icmp_ge q121_115 (fun c115 => ?_) (fun c115 => ?_)
          · refine wq_iconst q121_122 ?_
            exact zero (by rw [hb, decide_eq_true (show hi r 30 = 0 from c98), decide_eq_false (show ¬ hi r 31 < hi (f + 1) 2 from Int32.not_lt.mpr c115)]; rfl) q121_123
          · refine wq_iconst q121_118 ?_
            refine wq_goto q121_119 ?_
            exact one (by rw [hb, decide_eq_true (show hi r 30 = 0 from c98), decide_eq_true (show hi r 31 < hi (f + 1) 2 from Int32.not_le.mp c115)]; rfl) q121_123
      | 3, ht, c10 =>
        cases ht
        obtain rfl : kd = (3 : Int32) := Int32.toInt_inj.mp (by rw [c10]; rfl)
        have hb : canB hi f (hi r) n 3 fi se = decide (2 ≤ hi r (7 + riR (fun i => hi r (7 + i)) (n - 1) 1 0)) := by
          unfold canB
          rw [if_neg (by decide), if_neg (by decide), if_neg (by decide), if_pos rfl]
          simp [h0]
        have hr7 := riR_7 (b := fun i => hi r (7 + i)) hn
        refine wq_aload_n q121_124 rfl ?_
        refine wq_getR q121_125 (by first | exact s1 | exact s2 | exact s3 | exact f1 | rfl) rfl (by first | exact s1 | exact s2 | exact s3 | exact f1 | rfl) ?_
        refine wq_bipush q121_128 ?_
        refine wq_aload_n q121_130 rfl ?_
        refine wq_aload_n q121_131 rfl ?_
        refine wq_getR q121_132 (by first | exact s1 | exact s2 | exact s3 | exact f1 | rfl) rfl (by first | exact s1 | exact s2 | exact s3 | exact f1 | rfl) ?_
        refine wq_getI q121_135 (by first | exact s1 | exact s2 | exact s3 | exact f1 | rfl) rfl ?_
        rw [ec]
        refine cV (As := [_]) q121_138 m_59 rfl rfl (by first | exact s1 | exact s2 | exact s3 | rfl) ⟨by decide, rfl⟩ rfl (c_richest hS hn ?_)
        refine wq_iadd q121_141 ?_
        refine aI q121_142 (by first | exact s1 | exact s2 | exact s3 | rfl) (nI_add 7 _) (by show 7 + riR (fun i => hi r (7 + i)) (n - 1) 1 0 < 33; omega) (by first | decide | omega) ?_
        refine wq_iconst q121_143 ?_
        refine wq_icmp_lt q121_144 (fun c144 => ?_) (fun c144 => ?_)
        · refine wq_iconst q121_151 ?_
          exact zero (by rw [hb]; exact decide_eq_false (Int32.not_le.mpr c144)) q121_152
        · refine wq_iconst q121_147 ?_
          refine wq_goto q121_148 ?_
          exact one (by rw [hb]; exact decide_eq_true (Int32.not_lt.mp c144)) q121_152
      | i + 4, ht, _ => simp at ht
  · have h0 := p01 c4
    refine wq_iconst q121_7 ?_
    exact zero (by unfold canB; simp [h0]) q121_8
theorem heR_2 {bits : Int32} {v te : Nat} {cost : Int32} : ∀ (m p : Nat) (a b c : Nat → Int32), (heR bits v te cost m p (a, c)).2 = (heR bits v te cost m p (b, c)).2 := by
  intro m
  induction m with
  | zero => intro p a b c; rfl
  | succ m ih =>
    intro p a b c
    unfold heR heS
    split
    · exact ih _ _ _ _
    · exact ih _ _ _ _
theorem taR_2 {hi : Nat → Nat → Int32} {f : Nat} {lw : Option Nat} {sz n : Nat} {s : Nat → Nat} {wi te : Nat} {cost : Int32} {hold : Bool} : ∀ (m v : Nat) (a b c : Nat → Int32) (x : Int32), (taR hi f lw sz n s wi te cost hold m v (a, c, x)).2 = (taR hi f lw sz n s wi te cost hold m v (b, c, x)).2 := by
  intro m
  induction m with
  | zero => intro v a b c x; rfl
  | succ m ih =>
    intro v a b c x
    unfold taR taS
    dsimp only
    split
    · rw [heR_2 7 0 a b c]
      exact ih _ _ _ _ _
    · exact ih _ _ _ _ _
/-- the telling: the row behind it, and how many heard -/
def tellR (hi : Nat → Nat → Int32) (f : Nat) (lw : Option Nat) (sz n ev : Nat) (s : Nat → Nat) (wi : Nat) (cost : Int32) (hold : Bool) (row : Nat → Int32) : (Nat → Int32) × Int32 := (taR hi f lw sz n s wi (s wi) cost hold ev 0 (fun _ => 0, row, 0)).2
/-- what a step does to a row -/
def chg (hi : Nat → Nat → Int32) (f : Nat) (lw : Option Nat) (sz n ev : Nat) (s : Nat → Nat) (wi : Nat) (row : Nat → Int32) (kd fi se : Int32) : Nat → Int32 :=
  if kd = 0 then va_up row 28 (row 28 ||| (1 <<< (fi &&& 31))) else if kd = 1 then swR row n fi se
  else if kd = 2 then wtR (tellR hi f lw sz n ev s wi (hi (f + 1) 3) false row).1 (s wi) (tellR hi f lw sz n ev s wi (hi (f + 1) 3) false row).2 n
  else if kd = 3 then va_up (va_up row (7 + riR (fun i => row (7 + i)) (n - 1) 1 0) (row (7 + riR (fun i => row (7 + i)) (n - 1) 1 0) - 2)) 31 0 else edR row
/-- what is known of the fort and of a row -/
def FoK (hi : Nat → Nat → Int32) (f n ev wi : Nat) : Prop := n ≤ 7 ∧ 1 ≤ n ∧ ev ≤ 6 ∧ wi < n ∧ hi f 3 = nI n ∧ hi f 4 = nI ev ∧ hi (f + 1) 0 = nI wi
def SiK (row : Nat → Int32) (n : Nat) (s : Nat → Nat) : Prop := ∀ c, c < n → row c = nI (s c) ∧ s c < 7
theorem upS {hi : Nat → Nat → Int32} {S : List Nat} {r : Nat} (F : Nat → Int32) (h : r ∈ S) : Same S hi (upC hi r F) := Same.up Same.rf h F
theorem c_change {ev wi : Nat} {s : Nat → Nat} {kd fi se : Int32} (hf : Fok f) (hs : Sok a r) (hw : Lawk hi lw sz) (hlw : LwN hi lw) (hk : FoK hi f n ev wi) (hsit : SiK (hi r) n s)
    (hQ : ∀ hi', Same (52 :: r :: scr0) hi hi' → hi' r = chg hi f lw sz n ev s wi (hi r) kd fi se → Q none (HP hi' hl f dr t)) : Ct G (0, 0) (d + 6) 122 [.ref 0, .ref a, .int kd, .int fi, .int se] (HP hi hl f dr t) Q := by
  obtain ⟨hn, hn1, hev, hwi, hc, hc4, hc0⟩ := hk
  have hF := hf.frt hi hl f dr t
  have hS := hs.scn hi hl f dr t
  obtain ⟨f1, -⟩ := hf.frt hi hl f dr t
  obtain ⟨s1, s2, s3, s4⟩ := hs.scn hi hl f dr t
  have ec : hI (HP hi hl f dr t) f 3 = nI n := hc
  have hrm : r ∈ (52 :: r :: scr0) := List.mem_cons_of_mem _ List.mem_cons_self
  refine Ct_of (ls := [_, _, _, _, _, _]) m_122.1.2.2.1 (Nat.le_of_ble_eq_true rfl) rfl ?_
  refine wq_iload_n q122_0 rfl ?_
  refine wq_if_ne q122_1 (fun c1 => ?_) (fun c1 => ?_)
  · refine wq_iload_n q122_20 rfl ?_
    refine wq_iconst q122_21 ?_
    refine wq_icmp_ne q122_22 (fun c22 => ?_) (fun c22 => ?_)
    · refine wq_iload_n q122_42 rfl ?_
      refine wq_iconst q122_43 ?_
      refine wq_icmp_ne q122_44 (fun c44 => ?_) (fun c44 => ?_)
      · refine wq_iload_n q122_103 rfl ?_
        refine wq_iconst q122_104 ?_
        refine wq_icmp_ne q122_105 (fun c105 => ?_) (fun c105 => ?_)
        · have e : chg hi f lw sz n ev s wi (hi r) kd fi se = edR (hi r) := by unfold chg; rw [if_neg c1, if_neg c22, if_neg c44, if_neg c105]
          refine wq_aload_n q122_142 rfl ?_
          refine cV (As := []) q122_143 m_63 rfl rfl (by first | exact s1 | rfl) ⟨by decide, rfl⟩ rfl (c_endDay hS ?_)
          refine rV q122_146 ?_
          exact hQ _ (upS _ hrm) (by rw [e]; exact upC_s _ _ _)
        · have e : chg hi f lw sz n ev s wi (hi r) kd fi se = va_up (va_up (hi r) (7 + riR (fun i => hi r (7 + i)) (n - 1) 1 0) (hi r (7 + riR (fun i => hi r (7 + i)) (n - 1) 1 0) - 2)) 31 0 := by unfold chg; rw [if_neg c1, if_neg c22, if_neg c44, if_pos c105]
          have hr7 := riR_7 (b := fun i => hi r (7 + i)) hn
          refine wq_aload_n q122_108 rfl ?_
          refine wq_getR q122_109 (by first | exact s1 | exact s2 | exact s3 | exact f1 | rfl) rfl (by first | exact s1 | exact s2 | exact s3 | exact f1 | rfl) ?_
          refine wq_bipush q122_112 ?_
          refine wq_aload_n q122_114 rfl ?_
          refine wq_aload_n q122_115 rfl ?_
          refine wq_getR q122_116 (by first | exact s1 | exact s2 | exact s3 | exact f1 | rfl) rfl (by first | exact s1 | exact s2 | exact s3 | exact f1 | rfl) ?_
          refine wq_getI q122_119 (by first | exact s1 | exact s2 | exact s3 | exact f1 | rfl) rfl ?_
          rw [ec]
          refine cV (As := [_]) q122_122 m_59 rfl rfl (by first | exact s1 | exact s2 | exact s3 | exact s4 | rfl) ⟨by decide, rfl⟩ rfl (c_richest hS hn ?_)
          refine wq_iadd q122_125 ?_
          refine wq_dup2 q122_126 rfl rfl ?_
          refine aI q122_127 (by first | exact s1 | exact s2 | exact s3 | exact s4 | rfl) (nI_add 7 _) (by show 7 + riR (fun i => hi r (7 + i)) (n - 1) 1 0 < 33; omega) (by first | decide | omega) ?_
          refine wq_iconst q122_128 ?_
          refine wq_isub q122_129 ?_
          refine sI q122_130 (by first | exact s1 | exact s2 | exact s3 | exact s4 | rfl) (nI_add 7 _) (by show 7 + riR (fun i => hi r (7 + i)) (n - 1) 1 0 < 33; omega) (by first | decide | omega) (by first | exact s1 | exact s2 | exact s3 | exact s4 | rfl) ?_
          refine wq_aload_n q122_131 rfl ?_
          refine wq_getR q122_132 (by first | exact s1 | exact s2 | exact s3 | exact s4 | rfl) rfl (by first | exact s1 | exact s2 | exact s3 | exact s4 | rfl) ?_
          refine wq_bipush q122_135 ?_
          refine wq_iconst q122_137 ?_
          refine sI q122_138 (by first | exact s1 | exact s2 | exact s3 | exact s4 | rfl) (rfl) (by decide) (by first | decide | omega) (by first | exact s1 | exact s2 | exact s3 | exact s4 | rfl) ?_
          refine wq_goto q122_139 ?_
          refine rV q122_146 ?_
          rw [stI_C, stI_C, hI_C, stC_C]
          exact hQ _ (upS _ hrm) (by rw [e]; exact upC_s _ _ _)
      · have e : chg hi f lw sz n ev s wi (hi r) kd fi se = wtR (tellR hi f lw sz n ev s wi (hi (f + 1) 3) false (hi r)).1 (s wi) (tellR hi f lw sz n ev s wi (hi (f + 1) 3) false (hi r)).2 n := by unfold chg; rw [if_neg c1, if_neg c22, if_pos c44]
        have hte := (hsit wi hwi).2
        have ht2 := taR_2 (hi := hi) (f := f) (lw := lw) (sz := sz) (n := n) (s := s) (wi := wi) (te := s wi) (cost := hi (f + 1) 3) (hold := false) ev 0 (fun i => if i < 7 then 0 else hi 52 i) (fun _ => 0) (hi r) 0
        have after : ∀ hi2 : Nat → Nat → Int32, taI hi r n s (taR hi f lw sz n s wi (s wi) (hi (f + 1) 3) false ev 0 (fun i => if i < 7 then 0 else hi 52 i, hi r, 0)) hi2 →
            wq G (0, 0) (d + 6) 122 71 [some (.ref 0), some (.ref a), some (.int kd), some (.int fi), some (.int se), none] [.int (taR hi f lw sz n s wi (s wi) (hi (f + 1) 3) false ev 0 (fun i => if i < 7 then 0 else hi 52 i, hi r, 0)).2.2] (0, 0) (HP hi2 hl f dr t) Q := by
          intro hi2 hI2
          have hfS : ∀ b, (b = f ∨ b = f + 1 ∨ b = f + 2 ∨ b = f + 3) → b ∉ (52 :: r :: scr0) := by
            rcases hf with rfl | rfl <;> rcases hs with ⟨-, rfl⟩ | ⟨-, rfl⟩ | ⟨-, rfl⟩ <;> rintro b (rfl | rfl | rfl | rfl) <;> decide
          have g0 : hi2 f = hi f := hI2.1 f (hfS f (Or.inl rfl))
          have g1 : hi2 (f + 1) = hi (f + 1) := hI2.1 _ (hfS _ (Or.inr (Or.inl rfl)))
          obtain ⟨f1, -⟩ := hf.frt hi2 hl f dr t
          obtain ⟨s1, s2, s3, s4⟩ := hs.scn hi2 hl f dr t
          have hS2 := hs.scn hi2 hl f dr t
          have ew : hI (HP hi2 hl f dr t) (f + 1) 0 = nI wi := by show hi2 (f + 1) 0 = _; rw [g1]; exact hc0
          have ec : hI (HP hi2 hl f dr t) f 3 = nI n := by show hi2 f 3 = _; rw [g0]; exact hc
          have et : hI (HP hi2 hl f dr t) r wi = nI (s wi) := by show hi2 r wi = _; rw [hI2.2.2.1]; exact (hI2.2.2.2 wi hwi).1
          refine wq_istore (ls' := [_, _, _, _, _, _]) q122_71 rfl ?_
          refine wq_aload_n q122_73 rfl ?_
          refine wq_aload_n q122_74 rfl ?_
          refine wq_getR q122_75 (by first | exact s1 | exact s2 | exact s3 | exact f1 | rfl) rfl (by first | exact s1 | exact s2 | exact s3 | exact f1 | rfl) ?_
          refine wq_iconst q122_78 ?_
          refine wq_aload_n q122_79 rfl ?_
          refine wq_getR q122_80 (by first | exact s1 | exact s2 | exact s3 | exact f1 | rfl) rfl (by first | exact s1 | exact s2 | exact s3 | exact f1 | rfl) ?_
          refine cV (As := []) q122_83 m_16 rfl rfl (by first | exact s1 | exact s2 | exact s3 | exact f1 | rfl) ⟨by decide, rfl⟩ rfl (c_window (by exact hf.frt hi2 hl f dr t) ?_)
          rw [ew]
          refine wq_iadd q122_86 ?_
          refine aI q122_87 (by first | exact s3 | rfl) ((by rw [show (0 : Int32) = nI 0 from rfl, nI_add, Nat.zero_add])) (by omega) (by first | decide | omega) ?_
          rw [et]
          refine wq_iload q122_88 rfl ?_
          refine wq_aload_n q122_90 rfl ?_
          refine wq_getR q122_91 (by first | exact f1 | rfl) rfl (by first | exact f1 | rfl) ?_
          refine wq_getI q122_94 (by first | exact f1 | rfl) rfl ?_
          rw [ec]
          refine cV (As := [_, _, _]) q122_97 m_62 rfl rfl (by first | exact s1 | rfl) ⟨by decide, rfl⟩ rfl (c_wasTold hS2 hn hte ?_)
          refine wq_goto q122_100 ?_
          refine rV q122_146 ?_
          have er : hI (HP hi2 hl f dr t) r = (tellR hi f lw sz n ev s wi (hi (f + 1) 3) false (hi r)).1 := by
            show hi2 r = _
            rw [hI2.2.2.1, ht2]
            rfl
          rw [er, hpC, ht2]
          refine hQ _ (Same.up hI2.1 hrm _) ?_
          rw [e, upC_s]
          rfl
        refine wq_aload_n q122_47 rfl ?_
        refine wq_getR q122_48 (by first | exact f1 | rfl) rfl (by first | exact f1 | rfl) ?_
        refine wq_aload_n q122_51 rfl ?_
        refine wq_getR q122_52 (by first | exact f1 | rfl) rfl (by first | exact f1 | rfl) ?_
        refine wq_aload_n q122_55 rfl ?_
        refine wq_aload_n q122_56 rfl ?_
        cases hlw' : lw with
        | none =>
          subst hlw'
          refine cV (As := []) q122_57 m_108 rfl rfl (by first | exact f1 | rfl) ⟨by decide, rfl⟩ rfl (c_lawNow hlw ?_)
          refine wq_aload_n q122_60 rfl ?_
          refine wq_getR q122_61 (by first | exact f1 | rfl) rfl (by first | exact f1 | rfl) ?_
          refine cV (As := []) q122_64 m_19 rfl rfl (by first | exact f1 | rfl) ⟨by decide, rfl⟩ rfl (c_cost hF ?_)
          refine wq_iconst q122_67 ?_
          refine cV (As := [_, _, _, _, _]) q122_68 m_31 rfl rfl rfl ⟨by decide, rfl⟩ rfl (c_tellAll (lw := none) (hold := false) (s := s) hf hs hw hn hev hwi hc hc4 hc0 hsit (fun hi2 hI2 => ?_))
          exact after hi2 hI2
        | some la =>
          subst hlw'
          refine cV (As := []) q122_57 m_108 rfl rfl (by first | exact f1 | rfl) ⟨by decide, rfl⟩ rfl (c_lawNow hlw ?_)
          refine wq_aload_n q122_60 rfl ?_
          refine wq_getR q122_61 (by first | exact f1 | rfl) rfl (by first | exact f1 | rfl) ?_
          refine cV (As := []) q122_64 m_19 rfl rfl (by first | exact f1 | rfl) ⟨by decide, rfl⟩ rfl (c_cost hF ?_)
          refine wq_iconst q122_67 ?_
          refine cV (As := [_, _, _, _, _]) q122_68 m_31 rfl rfl rfl ⟨by decide, rfl⟩ rfl (c_tellAll (lw := some la) (hold := false) (s := s) hf hs hw hn hev hwi hc hc4 hc0 hsit (fun hi2 hI2 => ?_))
          exact after hi2 hI2
    · have e : chg hi f lw sz n ev s wi (hi r) kd fi se = swR (hi r) n fi se := by unfold chg; rw [if_neg c1, if_pos c22]
      refine wq_aload_n q122_25 rfl ?_
      refine wq_iload_n q122_26 rfl ?_
      refine wq_iload q122_27 rfl ?_
      refine wq_aload_n q122_29 rfl ?_
      refine wq_getR q122_30 (by first | exact f1 | rfl) rfl (by first | exact f1 | rfl) ?_
      refine wq_getI q122_33 (by first | exact f1 | rfl) rfl ?_
      rw [ec]
      refine cV (As := [_, _, _]) q122_36 m_58 rfl rfl (by first | exact s1 | rfl) ⟨by decide, rfl⟩ rfl (c_swapCells hS hn hn1 ?_)
      refine wq_goto q122_39 ?_
      refine rV q122_146 ?_
      exact hQ _ (upS _ hrm) (by rw [e]; exact upC_s _ _ _)
  · have e : chg hi f lw sz n ev s wi (hi r) kd fi se = va_up (hi r) 28 (hi r 28 ||| (1 <<< (fi &&& 31))) := by unfold chg; rw [if_pos c1]
    refine wq_aload_n q122_4 rfl ?_
    refine wq_getR q122_5 (by first | exact s1 | exact s2 | exact s3 | exact s4 | rfl) rfl (by first | exact s1 | exact s2 | exact s3 | exact s4 | rfl) ?_
    refine wq_bipush q122_8 ?_
    refine wq_dup2 q122_10 rfl rfl ?_
    refine aI q122_11 (by first | exact s1 | exact s2 | exact s3 | exact s4 | rfl) (rfl) (by decide) (by first | decide | omega) ?_
    refine wq_iconst q122_12 ?_
    refine wq_iload_n q122_13 rfl ?_
    refine wq_ishl q122_14 ?_
    refine wq_ior q122_15 ?_
    refine sI q122_16 (by first | exact s1 | exact s2 | exact s3 | exact s4 | rfl) (rfl) (by decide) (by first | decide | omega) (by first | exact s1 | exact s2 | exact s3 | exact s4 | rfl) ?_
    refine wq_goto q122_17 ?_
    refine rV q122_146 ?_
    exact hQ _ (upS _ hrm) (by rw [e]; exact upC_s _ _ _)
end ACTS2
