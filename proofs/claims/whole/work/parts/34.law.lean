/-! THE VALUE OF A LAW: contracts of Law.stacked, clauseEnd, joined, worth -/
def Lw (h : ph_H) (a : Nat) : Prop := (hS h)[a]? = some (5, 3) ∧ hR h a 0 = some (a + 1) ∧ hR h a 1 = some (a + 2) ∧ (hS h)[a + 1]? = some (100, 241) ∧ (hS h)[a + 2]? = some (100, 32) ∧ h.1 = false
/-- held within a million -/
def cl6 (v : Int64) : Int32 := (if (if v < 1000000 then v else 1000000) < (-1000000) then (-1000000 : Int64) else (if v < 1000000 then v else 1000000)).toInt32
def jnL (x : Int32) (a b : Int64) : Int64 :=
  if x = -43 then a + b else if x = -45 then a - b else if x = -42 then a * b else if x = -47 then (if b = 0 then 0 else a / b)
  else if x = -61 then (if a = b then 1 else 0) else if x = -60 then (if a < b then 1 else 0) else if x = -62 then (if b < a then 1 else 0) else if x = -38 then a &&& b else a ||| b
def jn (x : Int32) (a b : Int64) : Int32 := cl6 (jnL x a b)
section LAW
variable {G : ph_G} {d a r n : Nat} {h : ph_H} {Q : Option Value → ph_H → Prop}
theorem c_joined_end {x : Int32} {p q v : Int64} (hQ : Q (some (.int (cl6 v))) h) : wq G (0, 0) (d + 1) 48 219 [some (.int x), some (.long p), none, some (.long q), none, some (.long v), none] [] (0, 0) h Q := by
  refine wq_ldc2_w q48_219 ?_
  refine wq_ldc2_w q48_222 ?_
  refine wq_lload q48_225 rfl ?_
  refine wq_minL q48_227 ⟨Nat.le.refl, Nat.le.refl, Nat.le_of_ble_eq_true rfl⟩ ?_
  refine wq_maxL q48_230 ⟨Nat.le.refl, Nat.le.refl, Nat.le_of_ble_eq_true rfl⟩ ?_
  refine wq_l2i q48_233 ?_
  refine rI q48_234 rfl ?_
  exact hQ
theorem c_joined {x : Int32} {p q : Int64} (hQ : Q (some (.int (jn x p q))) h) : Ct G (0, 0) (d + 1) 48 [.int x, .long p, .long q] h Q := by
  refine Ct_of (ls := [_, _, _, _, _, _, _]) m_48.1.2.2.1 (Nat.le_of_ble_eq_true rfl) rfl ?_
  refine wq_iload_n q48_0 rfl ?_
  refine wq_switch q48_1 [190, 158, 174, 214, 214, 214, 214, 214, 214, 214, 214, 214, 214, 214, 214, 140, 214, 124, 214, 116, 132, 214, 214, 214, 206] (by decide) (fun c1 => ?_) (fun i t ht c1 => ?_)
  · refine wq_lload_n q48_214 rfl ?_
    refine wq_lload_n q48_215 rfl ?_
    refine wq_lor q48_216 ?_
    refine wq_lstore (ls' := [_, _, _, _, _, _, _]) q48_217 rfl ?_
    have e : jnL x p q = p ||| q := by
      have g : ∀ v : Int32, -62 ≤ v.toInt → v.toInt ≤ -38 → x ≠ v := fun v h1 h2 z => by subst z; omega
      unfold jnL
      rw [if_neg (g _ (by decide) (by decide)), if_neg (g _ (by decide) (by decide)), if_neg (g _ (by decide) (by decide)), if_neg (g _ (by decide) (by decide)), if_neg (g _ (by decide) (by decide)), if_neg (g _ (by decide) (by decide)), if_neg (g _ (by decide) (by decide)), if_neg (g _ (by decide) (by decide))]
    rw [jn, e] at hQ
    exact c_joined_end hQ
  · match i, ht, c1 with
    | 0, ht, c1 =>
      cases ht
      obtain rfl : x = (-62 : Int32) := Int32.toInt_inj.mp (by rw [c1]; rfl)
      have e : jn (-62) p q = cl6 (if q < p then 1 else 0) := rfl
      rw [e] at hQ
      refine wq_lload_n q48_190 rfl ?_
      refine wq_lload_n q48_191 rfl ?_
      refine wq_lcmp q48_192 ?_
      refine wq_if_le q48_193 (fun c193 => ?_) (fun c193 => ?_)
      · rw [lg_cmp_le] at c193
        rw [if_neg (Int64.not_lt.mpr c193)] at hQ
        refine wq_lconst q48_200 ?_
        refine wq_lstore (ls' := [_, _, _, _, _, _, _]) q48_201 rfl ?_
        refine wq_goto q48_203 ?_
        exact c_joined_end hQ
      · rw [lg_cmp_le] at c193
        rw [if_pos (Int64.not_le.mp c193)] at hQ
        refine wq_lconst q48_196 ?_
        refine wq_goto q48_197 ?_
        refine wq_lstore (ls' := [_, _, _, _, _, _, _]) q48_201 rfl ?_
        refine wq_goto q48_203 ?_
        exact c_joined_end hQ
    | 1, ht, c1 =>
      cases ht
      obtain rfl : x = (-61 : Int32) := Int32.toInt_inj.mp (by rw [c1]; rfl)
      have e : jn (-61) p q = cl6 (if p = q then 1 else 0) := rfl
      rw [e] at hQ
      refine wq_lload_n q48_158 rfl ?_
      refine wq_lload_n q48_159 rfl ?_
      refine wq_lcmp q48_160 ?_
      refine wq_if_ne q48_161 (fun c161 => ?_) (fun c161 => ?_)
      · rw [lg_cmp_eq] at c161
        rw [if_neg c161] at hQ
        refine wq_lconst q48_168 ?_
        refine wq_lstore (ls' := [_, _, _, _, _, _, _]) q48_169 rfl ?_
        refine wq_goto q48_171 ?_
        exact c_joined_end hQ
      · rw [lg_cmp_eq] at c161
        rw [if_pos c161] at hQ
        refine wq_lconst q48_164 ?_
        refine wq_goto q48_165 ?_
        refine wq_lstore (ls' := [_, _, _, _, _, _, _]) q48_169 rfl ?_
        refine wq_goto q48_171 ?_
        exact c_joined_end hQ
    | 2, ht, c1 =>
      cases ht
      obtain rfl : x = (-60 : Int32) := Int32.toInt_inj.mp (by rw [c1]; rfl)
      have e : jn (-60) p q = cl6 (if p < q then 1 else 0) := rfl
      rw [e] at hQ
      refine wq_lload_n q48_174 rfl ?_
      refine wq_lload_n q48_175 rfl ?_
      refine wq_lcmp q48_176 ?_
      refine wq_if_ge q48_177 (fun c177 => ?_) (fun c177 => ?_)
      · rw [lg_cmp_ge] at c177
        rw [if_neg (Int64.not_lt.mpr c177)] at hQ
        refine wq_lconst q48_184 ?_
        refine wq_lstore (ls' := [_, _, _, _, _, _, _]) q48_185 rfl ?_
        refine wq_goto q48_187 ?_
        exact c_joined_end hQ
      · rw [lg_cmp_ge] at c177
        rw [if_pos (Int64.not_le.mp c177)] at hQ
        refine wq_lconst q48_180 ?_
        refine wq_goto q48_181 ?_
        refine wq_lstore (ls' := [_, _, _, _, _, _, _]) q48_185 rfl ?_
        refine wq_goto q48_187 ?_
        exact c_joined_end hQ
    | 3, ht, c1 =>
      cases ht
      obtain rfl : x = (-59 : Int32) := Int32.toInt_inj.mp (by rw [c1]; rfl)
      refine wq_lload_n q48_214 rfl ?_
      refine wq_lload_n q48_215 rfl ?_
      refine wq_lor q48_216 ?_
      refine wq_lstore (ls' := [_, _, _, _, _, _, _]) q48_217 rfl ?_
      exact c_joined_end hQ
    | 4, ht, c1 =>
      cases ht
      obtain rfl : x = (-58 : Int32) := Int32.toInt_inj.mp (by rw [c1]; rfl)
      refine wq_lload_n q48_214 rfl ?_
      refine wq_lload_n q48_215 rfl ?_
      refine wq_lor q48_216 ?_
      refine wq_lstore (ls' := [_, _, _, _, _, _, _]) q48_217 rfl ?_
      exact c_joined_end hQ
    | 5, ht, c1 =>
      cases ht
      obtain rfl : x = (-57 : Int32) := Int32.toInt_inj.mp (by rw [c1]; rfl)
      refine wq_lload_n q48_214 rfl ?_
      refine wq_lload_n q48_215 rfl ?_
      refine wq_lor q48_216 ?_
      refine wq_lstore (ls' := [_, _, _, _, _, _, _]) q48_217 rfl ?_
      exact c_joined_end hQ
    | 6, ht, c1 =>
      cases ht
      obtain rfl : x = (-56 : Int32) := Int32.toInt_inj.mp (by rw [c1]; rfl)
      refine wq_lload_n q48_214 rfl ?_
      refine wq_lload_n q48_215 rfl ?_
      refine wq_lor q48_216 ?_
      refine wq_lstore (ls' := [_, _, _, _, _, _, _]) q48_217 rfl ?_
      exact c_joined_end hQ
    | 7, ht, c1 =>
      cases ht
      obtain rfl : x = (-55 : Int32) := Int32.toInt_inj.mp (by rw [c1]; rfl)
      refine wq_lload_n q48_214 rfl ?_
      refine wq_lload_n q48_215 rfl ?_
      refine wq_lor q48_216 ?_
      refine wq_lstore (ls' := [_, _, _, _, _, _, _]) q48_217 rfl ?_
      exact c_joined_end hQ
    | 8, ht, c1 =>
      cases ht
      obtain rfl : x = (-54 : Int32) := Int32.toInt_inj.mp (by rw [c1]; rfl)
      refine wq_lload_n q48_214 rfl ?_
      refine wq_lload_n q48_215 rfl ?_
      refine wq_lor q48_216 ?_
      refine wq_lstore (ls' := [_, _, _, _, _, _, _]) q48_217 rfl ?_
      exact c_joined_end hQ
    | 9, ht, c1 =>
      cases ht
      obtain rfl : x = (-53 : Int32) := Int32.toInt_inj.mp (by rw [c1]; rfl)
      refine wq_lload_n q48_214 rfl ?_
      refine wq_lload_n q48_215 rfl ?_
      refine wq_lor q48_216 ?_
      refine wq_lstore (ls' := [_, _, _, _, _, _, _]) q48_217 rfl ?_
      exact c_joined_end hQ
    | 10, ht, c1 =>
      cases ht
      obtain rfl : x = (-52 : Int32) := Int32.toInt_inj.mp (by rw [c1]; rfl)
      refine wq_lload_n q48_214 rfl ?_
      refine wq_lload_n q48_215 rfl ?_
      refine wq_lor q48_216 ?_
      refine wq_lstore (ls' := [_, _, _, _, _, _, _]) q48_217 rfl ?_
      exact c_joined_end hQ
    | 11, ht, c1 =>
      cases ht
      obtain rfl : x = (-51 : Int32) := Int32.toInt_inj.mp (by rw [c1]; rfl)
      refine wq_lload_n q48_214 rfl ?_
      refine wq_lload_n q48_215 rfl ?_
      refine wq_lor q48_216 ?_
      refine wq_lstore (ls' := [_, _, _, _, _, _, _]) q48_217 rfl ?_
      exact c_joined_end hQ
    | 12, ht, c1 =>
      cases ht
      obtain rfl : x = (-50 : Int32) := Int32.toInt_inj.mp (by rw [c1]; rfl)
      refine wq_lload_n q48_214 rfl ?_
      refine wq_lload_n q48_215 rfl ?_
      refine wq_lor q48_216 ?_
      refine wq_lstore (ls' := [_, _, _, _, _, _, _]) q48_217 rfl ?_
      exact c_joined_end hQ
    | 13, ht, c1 =>
      cases ht
      obtain rfl : x = (-49 : Int32) := Int32.toInt_inj.mp (by rw [c1]; rfl)
      refine wq_lload_n q48_214 rfl ?_
      refine wq_lload_n q48_215 rfl ?_
      refine wq_lor q48_216 ?_
      refine wq_lstore (ls' := [_, _, _, _, _, _, _]) q48_217 rfl ?_
      exact c_joined_end hQ
    | 14, ht, c1 =>
      cases ht
      obtain rfl : x = (-48 : Int32) := Int32.toInt_inj.mp (by rw [c1]; rfl)
      refine wq_lload_n q48_214 rfl ?_
      refine wq_lload_n q48_215 rfl ?_
      refine wq_lor q48_216 ?_
      refine wq_lstore (ls' := [_, _, _, _, _, _, _]) q48_217 rfl ?_
      exact c_joined_end hQ
    | 15, ht, c1 =>
      cases ht
      obtain rfl : x = (-47 : Int32) := Int32.toInt_inj.mp (by rw [c1]; rfl)
      have e : jn (-47) p q = cl6 (if q = 0 then 0 else p / q) := rfl
      rw [e] at hQ
      refine wq_lload_n q48_140 rfl ?_
      refine wq_lconst q48_141 ?_
      refine wq_lcmp q48_142 ?_
      refine wq_if_ne q48_143 (fun c143 => ?_) (fun c143 => ?_)
      · rw [lg_cmp_eq] at c143
        rw [if_neg c143] at hQ
        refine wq_lload_n q48_150 rfl ?_
        refine wq_lload_n q48_151 rfl ?_
        refine wq_ldiv q48_152 (c143) ?_
        refine wq_lstore (ls' := [_, _, _, _, _, _, _]) q48_153 rfl ?_
        refine wq_goto q48_155 ?_
        exact c_joined_end hQ
      · rw [lg_cmp_eq] at c143
        rw [if_pos c143] at hQ
        refine wq_lconst q48_146 ?_
        refine wq_goto q48_147 ?_
        refine wq_lstore (ls' := [_, _, _, _, _, _, _]) q48_153 rfl ?_
        refine wq_goto q48_155 ?_
        exact c_joined_end hQ
    | 16, ht, c1 =>
      cases ht
      obtain rfl : x = (-46 : Int32) := Int32.toInt_inj.mp (by rw [c1]; rfl)
      refine wq_lload_n q48_214 rfl ?_
      refine wq_lload_n q48_215 rfl ?_
      refine wq_lor q48_216 ?_
      refine wq_lstore (ls' := [_, _, _, _, _, _, _]) q48_217 rfl ?_
      exact c_joined_end hQ
    | 17, ht, c1 =>
      cases ht
      obtain rfl : x = (-45 : Int32) := Int32.toInt_inj.mp (by rw [c1]; rfl)
      refine wq_lload_n q48_124 rfl ?_
      refine wq_lload_n q48_125 rfl ?_
      refine wq_lsub q48_126 ?_
      refine wq_lstore (ls' := [_, _, _, _, _, _, _]) q48_127 rfl ?_
      refine wq_goto q48_129 ?_
      exact c_joined_end hQ
    | 18, ht, c1 =>
      cases ht
      obtain rfl : x = (-44 : Int32) := Int32.toInt_inj.mp (by rw [c1]; rfl)
      refine wq_lload_n q48_214 rfl ?_
      refine wq_lload_n q48_215 rfl ?_
      refine wq_lor q48_216 ?_
      refine wq_lstore (ls' := [_, _, _, _, _, _, _]) q48_217 rfl ?_
      exact c_joined_end hQ
    | 19, ht, c1 =>
      cases ht
      obtain rfl : x = (-43 : Int32) := Int32.toInt_inj.mp (by rw [c1]; rfl)
      refine wq_lload_n q48_116 rfl ?_
      refine wq_lload_n q48_117 rfl ?_
      refine wq_ladd q48_118 ?_
      refine wq_lstore (ls' := [_, _, _, _, _, _, _]) q48_119 rfl ?_
      refine wq_goto q48_121 ?_
      exact c_joined_end hQ
    | 20, ht, c1 =>
      cases ht
      obtain rfl : x = (-42 : Int32) := Int32.toInt_inj.mp (by rw [c1]; rfl)
      refine wq_lload_n q48_132 rfl ?_
      refine wq_lload_n q48_133 rfl ?_
      refine wq_lmul q48_134 ?_
      refine wq_lstore (ls' := [_, _, _, _, _, _, _]) q48_135 rfl ?_
      refine wq_goto q48_137 ?_
      exact c_joined_end hQ
    | 21, ht, c1 =>
      cases ht
      obtain rfl : x = (-41 : Int32) := Int32.toInt_inj.mp (by rw [c1]; rfl)
      refine wq_lload_n q48_214 rfl ?_
      refine wq_lload_n q48_215 rfl ?_
      refine wq_lor q48_216 ?_
      refine wq_lstore (ls' := [_, _, _, _, _, _, _]) q48_217 rfl ?_
      exact c_joined_end hQ
    | 22, ht, c1 =>
      cases ht
      obtain rfl : x = (-40 : Int32) := Int32.toInt_inj.mp (by rw [c1]; rfl)
      refine wq_lload_n q48_214 rfl ?_
      refine wq_lload_n q48_215 rfl ?_
      refine wq_lor q48_216 ?_
      refine wq_lstore (ls' := [_, _, _, _, _, _, _]) q48_217 rfl ?_
      exact c_joined_end hQ
    | 23, ht, c1 =>
      cases ht
      obtain rfl : x = (-39 : Int32) := Int32.toInt_inj.mp (by rw [c1]; rfl)
      refine wq_lload_n q48_214 rfl ?_
      refine wq_lload_n q48_215 rfl ?_
      refine wq_lor q48_216 ?_
      refine wq_lstore (ls' := [_, _, _, _, _, _, _]) q48_217 rfl ?_
      exact c_joined_end hQ
    | 24, ht, c1 =>
      cases ht
      obtain rfl : x = (-38 : Int32) := Int32.toInt_inj.mp (by rw [c1]; rfl)
      refine wq_lload_n q48_206 rfl ?_
      refine wq_lload_n q48_207 rfl ?_
      refine wq_land q48_208 ?_
      refine wq_lstore (ls' := [_, _, _, _, _, _, _]) q48_209 rfl ?_
      refine wq_goto q48_211 ?_
      exact c_joined_end hQ
    | i + 25, ht, _ => simp at ht
theorem c_stacked {dp : Nat} {x : Int32} (hw : Lw h a) (hd : dp ≤ 32) (hQ : Q (some (.int (nI (if dp < 32 then dp + 1 else dp)))) (if dp < 32 then stI h (a + 2) dp x else h)) : Ct G (0, 0) d 46 [.ref a, .int (nI dp), .int x] h Q := by
  obtain ⟨w1, w2, w3, w4, w5, w6⟩ := hw
  refine Ct_of (ls := [_, _, _]) m_46.1.2.2.1 (Nat.le_of_ble_eq_true rfl) rfl ?_
  refine wq_iload_n q46_0 rfl ?_
  refine wq_bipush q46_1 ?_
  refine wq_icmp_lt q46_3 (fun c3 => ?_) (fun c3 => ?_)
  · rw [show (32 : Int32) = nI 32 from rfl, nI_ltI (by omega) (by omega)] at c3
    rw [if_pos c3, if_pos c3] at hQ
    refine wq_aload_n q46_8 rfl ?_
    refine wq_getR q46_9 (by first | exact w1 | exact w3 | exact w5 | exact w6 | rfl) rfl (by first | exact w1 | exact w3 | exact w5 | exact w6 | rfl) ?_
    refine wq_iload_n q46_12 rfl ?_
    refine wq_iload_n q46_13 rfl ?_
    refine sI q46_14 (by first | exact w1 | exact w3 | exact w5 | exact w6 | rfl) (rfl) (by omega) (by first | decide | omega) (by first | exact w1 | exact w3 | exact w5 | exact w6 | rfl) ?_
    refine wq_iload_n q46_15 rfl ?_
    refine wq_iconst q46_16 ?_
    refine wq_iadd q46_17 ?_
    refine rI q46_18 rfl ?_
    rw [nI_1]
    exact hQ
  · rw [show (32 : Int32) = nI 32 from rfl, nI_ltI (by omega) (by omega)] at c3
    rw [if_neg c3, if_neg c3] at hQ
    refine wq_iload_n q46_6 rfl ?_
    refine rI q46_7 rfl ?_
    exact hQ
/-- where a clause ends -/
def ceL (sg : Nat → Int32) : Nat → Nat → Nat
  | 0, i => i
  | m + 1, i => if sg i = -59 then i else ceL sg m (i + 1)
theorem ceL_le {sg : Nat → Int32} : ∀ (m i : Nat), i ≤ ceL sg m i ∧ ceL sg m i ≤ i + m
  | 0, i => ⟨Nat.le_refl _, Nat.le_refl _⟩
  | m + 1, i => by
    unfold ceL
    split
    · omega
    · have := ceL_le (sg := sg) m (i + 1)
      omega
theorem c_clauseEnd_loop {sz : Nat} {x1 : Int32} (hw : Lw h a) (hz : hI h a 2 = nI sz) (hz' : sz ≤ 241) : ∀ (m i : Nat), i + m = sz → Q (some (.int (nI (ceL (hI h (a + 1)) m i)))) h →
    wq G (0, 0) d 47 2 [some (.ref a), some (.int x1), some (.int (nI i))] [] (0, 0) h Q := by
  obtain ⟨w1, w2, w3, w4, w5, w6⟩ := hw
  intro m
  induction m with
  | zero =>
    intro i hi hQ
    refine wq_iload_n q47_2 rfl ?_
    refine wq_aload_n q47_3 rfl ?_
    refine wq_getI q47_4 (by first | exact w1 | rfl) rfl ?_
    refine wq_icmp_ge q47_7 (fun c7 => ?_) (fun c7 => ?_)
    · refine wq_iload_n q47_27 rfl ?_
      refine rI q47_28 rfl ?_
      exact hQ
    · rw [hz, nI_leI (by omega) (by omega)] at c7
      omega
  | succ m ih =>
    intro i hi hQ
    refine wq_iload_n q47_2 rfl ?_
    refine wq_aload_n q47_3 rfl ?_
    refine wq_getI q47_4 (by first | exact w1 | rfl) rfl ?_
    refine wq_icmp_ge q47_7 (fun c7 => ?_) (fun c7 => ?_)
    · rw [hz, nI_leI (by omega) (by omega)] at c7
      omega
    · refine wq_aload_n q47_10 rfl ?_
      refine wq_getR q47_11 (by first | exact w1 | exact w2 | exact w4 | rfl) rfl (by first | exact w1 | exact w2 | exact w4 | rfl) ?_
      refine wq_iload_n q47_14 rfl ?_
      refine aI q47_15 (by first | exact w1 | exact w2 | exact w4 | rfl) (rfl) (by omega) (by first | decide | omega) ?_
      refine wq_bipush q47_16 ?_
      refine wq_icmp_eq q47_18 (fun c18 => ?_) (fun c18 => ?_)
      · rw [ceL, if_pos c18] at hQ
        refine wq_iload_n q47_27 rfl ?_
        refine rI q47_28 rfl ?_
        exact hQ
      · rw [ceL, if_neg c18] at hQ
        refine wq_iinc (ls' := [_, _, _]) q47_21 rfl rfl ?_
        refine wq_goto q47_24 ?_
        rw [nI_1]
        exact ih (i + 1) (by omega) hQ
theorem c_clauseEnd {sz i : Nat} (hw : Lw h a) (hz : hI h a 2 = nI sz) (hz' : sz ≤ 241) (hi : i ≤ sz) (hQ : Q (some (.int (nI (ceL (hI h (a + 1)) (sz - i) i)))) h) : Ct G (0, 0) d 47 [.ref a, .int (nI i)] h Q := by
  refine Ct_of (ls := [_, _, _]) m_47.1.2.2.1 (Nat.le_of_ble_eq_true rfl) rfl ?_
  refine wq_iload_n q47_0 rfl ?_
  refine wq_istore_n (ls' := [_, _, _]) q47_1 rfl ?_
  exact c_clauseEnd_loop hw hz hz' (sz - i) i (by omega) hQ
/-- a letter's place -/
def lx (x : Int32) : Nat := (-1 - x).toNatClampNeg
theorem lx_in {x : Int32} (h1 : -6 ≤ x) (h2 : x < 0) : vp_in (-1 - x) 6 := by
  have a1 : (-6 : Int) ≤ x.toInt := Int32.le_iff_toInt_le.mp h1
  have a2 : x.toInt < 0 := Int32.lt_iff_toInt_lt.mp h2
  rw [vp_in_iff]
  have e : (-1 - x).toInt = -1 - x.toInt := by
    rw [Int32.toInt_sub]
    have : (-1 : Int32).toInt = -1 := rfl
    rw [this, Int.bmod_eq_of_le] <;> omega
  rw [e]
  omega
/-- the value of a law's signs, over a stack of depth dp -/
def wo (sg : Nat → Int32) (sz : Nat) (lt : Nat → Int32) : Nat → Nat → Nat → (Nat → Int32) → Int32
  | 0, _, _, _ => 0
  | m + 1, i, dp, stk => if sz ≤ i then 0 else
    if -6 ≤ sg i then wo sg sz lt m (i + 1) (if dp < 32 then dp + 1 else dp) (if dp < 32 then va_up stk dp (if sg i < 0 then lt (lx (sg i)) else sg i) else stk)
    else if sg i = -59 ∨ dp < 1 then (if dp < 1 then 0 else stk (dp - 1))
    else if sg i = -33 then wo sg sz lt m (i + 1) dp (va_up stk (dp - 1) (1 - stk (dp - 1)))
    else if sg i = -63 then wo sg sz lt m ((if stk (dp - 1) = 0 then ceL sg (sz - i) i else i) + 1) (dp - 1) stk
    else if dp < 2 then wo sg sz lt m (i + 1) dp stk
    else wo sg sz lt m (i + 1) (dp - 1) (va_up stk (dp - 2) (jn (sg i) (stk (dp - 2)).toInt64 (stk (dp - 1)).toInt64))
theorem nI_m1 {n : Nat} (h : 1 ≤ n) : nI n - 1 = nI (n - 1) := by rw [show n = n - 1 + 1 by omega]; exact nI_pred (n - 1)
theorem c_worth_loop {sz b : Nat} {x4 : Option Value} (hw : Lw h a) (hz : hI h a 2 = nI sz) (hz' : sz ≤ 241) (b1 : (hS h)[b]? = some (100, 6)) (hb : b ≠ a + 2) : ∀ (m i dp : Nat) (stk : Nat → Int32) (x4 : Option Value), i ≤ sz + 1 → sz - i ≤ m → dp ≤ 32 → (∀ F, Q (some (.int (wo (hI h (a + 1)) sz (hI h b) m i dp stk))) (stC h (a + 2) F)) →
    wq G (0, 0) (d + 2) 45 4 [some (.ref a), some (.ref b), some (.int (nI dp)), some (.int (nI i)), x4] [] (0, 0) (stC h (a + 2) stk) Q := by
  have hw' : ∀ x, Lw (stC h (a + 2) x) a := fun x => hw
  obtain ⟨w1, w2, w3, w4, w5, w6⟩ := hw
  have g1 : ∀ x, hI (stC h (a + 2) x) a 2 = nI sz := fun x => by rw [hI_Co _ _ (by omega)]; exact hz
  have g2 : ∀ x, hI (stC h (a + 2) x) (a + 1) = hI h (a + 1) := fun x => hI_Co _ _ (by omega)
  have g3 : ∀ x, hI (stC h (a + 2) x) b = hI h b := fun x => hI_Co _ _ hb
  intro m
  induction m with
  | zero =>
    intro i dp stk x4 hi hm hd hQ
    refine wq_iload_n q45_4 rfl ?_
    refine wq_aload_n q45_5 rfl ?_
    refine wq_getI q45_6 (by first | exact w1 | rfl) rfl ?_
    refine wq_icmp_ge q45_9 (fun c9 => ?_) (fun c9 => ?_)
    · refine wq_iconst q45_185 ?_
      refine rI q45_186 rfl ?_
      exact hQ _
    · rw [g1, nI_leI (by omega) (by omega)] at c9
      omega
  | succ m ih =>
    intro i dp stk x4 hi hm hd hQ
    rw [wo] at hQ
    refine wq_iload_n q45_4 rfl ?_
    refine wq_aload_n q45_5 rfl ?_
    refine wq_getI q45_6 (by first | exact w1 | rfl) rfl ?_
    refine wq_icmp_ge q45_9 (fun c9 => ?_) (fun c9 => ?_)
    · rw [g1, nI_leI (by omega) (by omega)] at c9
      rw [if_pos c9] at hQ
      refine wq_iconst q45_185 ?_
      refine rI q45_186 rfl ?_
      exact hQ _
    · rw [g1, nI_leI (by omega) (by omega)] at c9
      rw [if_neg c9] at hQ
      refine wq_aload_n q45_12 rfl ?_
      refine wq_getR q45_13 (by first | exact w1 | exact w2 | exact w4 | rfl) rfl (by first | exact w1 | exact w2 | exact w4 | rfl) ?_
      refine wq_iload_n q45_16 rfl ?_
      refine aI q45_17 (by first | exact w1 | exact w2 | exact w4 | rfl) (rfl) (by omega) (by first | decide | omega) ?_
      refine wq_istore (ls' := [_, _, _, _, _]) q45_18 rfl ?_
      refine wq_iload q45_20 rfl ?_
      refine wq_bipush q45_22 ?_
      refine wq_icmp_lt q45_24 (fun c24 => ?_) (fun c24 => ?_)
      · rw [g2] at c24
        rw [if_neg (Int32.not_le.mpr c24)] at hQ
        refine wq_iload q45_52 rfl ?_
        refine wq_bipush q45_54 ?_
        refine wq_icmp_eq q45_56 (fun c56 => ?_) (fun c56 => ?_)
        · rw [g2] at c56
          rw [if_pos (Or.inl c56)] at hQ
          refine wq_iload_n q45_64 rfl ?_
          refine wq_iconst q45_65 ?_
          refine wq_icmp_ge q45_66 (fun c66 => ?_) (fun c66 => ?_)
          · rw [show (1 : Int32) = nI 1 from rfl, nI_leI (by omega) (by omega)] at c66
            rw [if_neg (by omega)] at hQ
            refine wq_aload_n q45_73 rfl ?_
            refine wq_getR q45_74 (by first | exact w1 | exact w3 | exact w5 | rfl) rfl (by first | exact w1 | exact w3 | exact w5 | rfl) ?_
            refine wq_iload_n q45_77 rfl ?_
            refine wq_iconst q45_78 ?_
            refine wq_isub q45_79 ?_
            refine aI q45_80 (by first | exact w1 | exact w3 | exact w5 | rfl) (nI_m1 c66) (by omega) (by first | decide | omega) ?_
            refine rI q45_81 rfl ?_
            rw [hI_C]
            exact hQ _
          · rw [show (1 : Int32) = nI 1 from rfl, nI_leI (by omega) (by omega)] at c66
            rw [if_pos (by omega)] at hQ
            refine wq_iconst q45_69 ?_
            refine wq_goto q45_70 ?_
            refine rI q45_81 rfl ?_
            exact hQ _
        · rw [g2] at c56
          refine wq_iload_n q45_59 rfl ?_
          refine wq_iconst q45_60 ?_
          refine wq_icmp_ge q45_61 (fun c61 => ?_) (fun c61 => ?_)
          · rw [show (1 : Int32) = nI 1 from rfl, nI_leI (by omega) (by omega)] at c61
            rw [if_neg (by rintro (z | z); exact c56 z; omega)] at hQ
            refine wq_iload q45_82 rfl ?_
            refine wq_bipush q45_84 ?_
            refine wq_icmp_ne q45_86 (fun c86 => ?_) (fun c86 => ?_)
            · rw [g2] at c86
              rw [if_neg c86] at hQ
              refine wq_iload q45_110 rfl ?_
              refine wq_bipush q45_112 ?_
              refine wq_icmp_ne q45_114 (fun c114 => ?_) (fun c114 => ?_)
              · rw [g2] at c114
                rw [if_neg c114] at hQ
                refine wq_iload_n q45_142 rfl ?_
                refine wq_iconst q45_143 ?_
                refine wq_icmp_lt q45_144 (fun c144 => ?_) (fun c144 => ?_)
                · rw [show (2 : Int32) = nI 2 from rfl, nI_ltI (by omega) (by omega)] at c144
                  rw [if_pos c144] at hQ
                  refine wq_iinc (ls' := [_, _, _, _, _]) q45_179 rfl rfl ?_
                  refine wq_goto q45_182 ?_
                  rw [nI_1]
                  exact ih (i + 1) dp stk _ (by omega) (by omega) hd hQ
                · rw [show (2 : Int32) = nI 2 from rfl, nI_ltI (by omega) (by omega)] at c144
                  rw [if_neg c144] at hQ
                  refine wq_iinc (ls' := [_, _, _, _, _]) q45_147 rfl rfl ?_
                  have e1 : nI dp + -1 = nI (dp - 1) := sb_m1 (by omega)
                  rw [e1]
                  refine wq_aload_n q45_150 rfl ?_
                  refine wq_getR q45_151 (by first | exact w1 | exact w3 | exact w5 | rfl) rfl (by first | exact w1 | exact w3 | exact w5 | rfl) ?_
                  refine wq_iload_n q45_154 rfl ?_
                  refine wq_iconst q45_155 ?_
                  refine wq_isub q45_156 ?_
                  refine wq_iload q45_157 rfl ?_
                  refine wq_aload_n q45_159 rfl ?_
                  refine wq_getR q45_160 (by first | exact w1 | exact w3 | exact w5 | rfl) rfl (by first | exact w1 | exact w3 | exact w5 | rfl) ?_
                  refine wq_iload_n q45_163 rfl ?_
                  refine wq_iconst q45_164 ?_
                  refine wq_isub q45_165 ?_
                  refine aI q45_166 (by first | exact w1 | exact w3 | exact w5 | rfl) (nI_m1 (by omega)) (by omega) (by first | decide | omega) ?_
                  refine wq_i2l q45_167 ?_
                  refine wq_aload_n q45_168 rfl ?_
                  refine wq_getR q45_169 (by first | exact w1 | exact w3 | exact w5 | rfl) rfl (by first | exact w1 | exact w3 | exact w5 | rfl) ?_
                  refine wq_iload_n q45_172 rfl ?_
                  refine aI q45_173 (by first | exact w1 | exact w3 | exact w5 | rfl) (rfl) (by omega) (by first | decide | omega) ?_
                  refine wq_i2l q45_174 ?_
                  refine cS' (As := [_, _, _]) q45_175 m_48 rfl rfl rfl (c_joined ?_)
                  rw [hI_C, g2]
                  refine sI q45_178 (by first | exact w1 | exact w3 | exact w5 | exact w6 | rfl) (nI_m1 (by omega)) (by omega) (by first | decide | omega) (by first | exact w1 | exact w3 | exact w5 | exact w6 | rfl) ?_
                  refine wq_iinc (ls' := [_, _, _, _, _]) q45_179 rfl rfl ?_
                  refine wq_goto q45_182 ?_
                  rw [nI_1, stI_C, hI_C, stC_C, show dp - 1 - 1 = dp - 2 by omega]
                  exact ih (i + 1) (dp - 1) _ _ (by omega) (by omega) (by omega) hQ
              · rw [g2] at c114
                rw [if_pos c114] at hQ
                refine wq_iinc (ls' := [_, _, _, _, _]) q45_117 rfl rfl ?_
                have e1 : nI dp + -1 = nI (dp - 1) := sb_m1 (by omega)
                rw [e1]
                refine wq_aload_n q45_120 rfl ?_
                refine wq_getR q45_121 (by first | exact w1 | exact w3 | exact w5 | rfl) rfl (by first | exact w1 | exact w3 | exact w5 | rfl) ?_
                refine wq_iload_n q45_124 rfl ?_
                refine aI q45_125 (by first | exact w1 | exact w3 | exact w5 | rfl) (rfl) (by omega) (by first | decide | omega) ?_
                refine wq_if_ne q45_126 (fun c126 => ?_) (fun c126 => ?_)
                · rw [hI_C] at c126
                  rw [if_neg c126] at hQ
                  refine wq_iload_n q45_137 rfl ?_
                  refine wq_istore_n (ls' := [_, _, _, _, _]) q45_138 rfl ?_
                  refine wq_goto q45_139 ?_
                  refine wq_iinc (ls' := [_, _, _, _, _]) q45_179 rfl rfl ?_
                  refine wq_goto q45_182 ?_
                  rw [nI_1]
                  exact ih (i + 1) (dp - 1) stk _ (by omega) (by omega) (by omega) hQ
                · rw [hI_C] at c126
                  rw [if_pos c126] at hQ
                  have hc := ceL_le (sg := hI h (a + 1)) (sz - i) i
                  refine wq_aload_n q45_129 rfl ?_
                  refine wq_iload_n q45_130 rfl ?_
                  refine cV (As := [_]) q45_131 m_47 rfl rfl (by first | exact w1 | rfl) ⟨by decide, rfl⟩ rfl (c_clauseEnd (hw' _) (g1 _) hz' (by omega) ?_)
                  refine wq_goto q45_134 ?_
                  refine wq_istore_n (ls' := [_, _, _, _, _]) q45_138 rfl ?_
                  refine wq_goto q45_139 ?_
                  refine wq_iinc (ls' := [_, _, _, _, _]) q45_179 rfl rfl ?_
                  refine wq_goto q45_182 ?_
                  rw [nI_1, g2]
                  exact ih _ (dp - 1) stk _ (by omega) (by omega) (by omega) hQ
            · rw [g2] at c86
              rw [if_pos c86] at hQ
              refine wq_aload_n q45_89 rfl ?_
              refine wq_getR q45_90 (by first | exact w1 | exact w3 | exact w5 | exact w6 | rfl) rfl (by first | exact w1 | exact w3 | exact w5 | exact w6 | rfl) ?_
              refine wq_iload_n q45_93 rfl ?_
              refine wq_iconst q45_94 ?_
              refine wq_isub q45_95 ?_
              refine wq_iconst q45_96 ?_
              refine wq_aload_n q45_97 rfl ?_
              refine wq_getR q45_98 (by first | exact w1 | exact w3 | exact w5 | exact w6 | rfl) rfl (by first | exact w1 | exact w3 | exact w5 | exact w6 | rfl) ?_
              refine wq_iload_n q45_101 rfl ?_
              refine wq_iconst q45_102 ?_
              refine wq_isub q45_103 ?_
              refine aI q45_104 (by first | exact w1 | exact w3 | exact w5 | exact w6 | rfl) (nI_m1 c61) (by omega) (by first | decide | omega) ?_
              refine wq_isub q45_105 ?_
              refine sI q45_106 (by first | exact w1 | exact w3 | exact w5 | exact w6 | rfl) (nI_m1 c61) (by omega) (by first | decide | omega) (by first | exact w1 | exact w3 | exact w5 | exact w6 | rfl) ?_
              refine wq_goto q45_107 ?_
              refine wq_iinc (ls' := [_, _, _, _, _]) q45_179 rfl rfl ?_
              refine wq_goto q45_182 ?_
              rw [nI_1, stI_C, hI_C, stC_C]
              exact ih (i + 1) dp _ _ (by omega) (by omega) hd hQ
          · rw [show (1 : Int32) = nI 1 from rfl, nI_leI (by omega) (by omega)] at c61
            rw [if_pos (Or.inr (by omega)), if_pos (by omega)] at hQ
            refine wq_iload_n q45_64 rfl ?_
            refine wq_iconst q45_65 ?_
            refine wq_icmp_ge q45_66 (fun c66 => ?_) (fun c66 => ?_)
            · rw [show (1 : Int32) = nI 1 from rfl, nI_leI (by omega) (by omega)] at c66
              omega
            · refine wq_iconst q45_69 ?_
              refine wq_goto q45_70 ?_
              refine rI q45_81 rfl ?_
              exact hQ _
      · rw [g2] at c24
        rw [if_pos (Int32.not_lt.mp c24)] at hQ
        refine wq_aload_n q45_27 rfl ?_
        refine wq_iload_n q45_28 rfl ?_
        refine wq_iload q45_29 rfl ?_
        refine wq_if_lt q45_31 (fun c31 => ?_) (fun c31 => ?_)
        · rw [g2] at c31
          rw [if_pos c31] at hQ
          refine wq_aload_n q45_39 rfl ?_
          refine wq_iconst q45_40 ?_
          refine wq_iload q45_41 rfl ?_
          refine wq_isub q45_43 ?_
          rw [g2]
          refine wq_iald q45_44 b1 (lx_in (Int32.not_lt.mp c24) c31) ?_
          rw [g3]
          refine cV (As := [_, _]) q45_45 m_46 rfl rfl (by first | exact w1 | rfl) ⟨by decide, rfl⟩ rfl (c_stacked (hw' _) hd ?_)
          refine wq_istore_n (ls' := [_, _, _, _, _]) q45_48 rfl ?_
          refine wq_goto q45_49 ?_
          refine wq_iinc (ls' := [_, _, _, _, _]) q45_179 rfl rfl ?_
          refine wq_goto q45_182 ?_
          rw [nI_1]
          by_cases hd2 : dp < 32
          · rw [if_pos hd2, if_pos hd2] at hQ
            rw [if_pos hd2, if_pos hd2, stI_C, hI_C, stC_C]
            exact ih (i + 1) (dp + 1) _ _ (by omega) (by omega) (by omega) hQ
          · rw [if_neg hd2, if_neg hd2] at hQ
            rw [if_neg hd2, if_neg hd2]
            exact ih (i + 1) dp _ _ (by omega) (by omega) (by omega) hQ
        · rw [g2] at c31
          rw [if_neg c31] at hQ
          refine wq_iload q45_34 rfl ?_
          refine wq_goto q45_36 ?_
          refine cV (As := [_, _]) q45_45 m_46 rfl rfl (by first | exact w1 | rfl) ⟨by decide, rfl⟩ rfl (c_stacked (hw' _) hd ?_)
          refine wq_istore_n (ls' := [_, _, _, _, _]) q45_48 rfl ?_
          refine wq_goto q45_49 ?_
          refine wq_iinc (ls' := [_, _, _, _, _]) q45_179 rfl rfl ?_
          refine wq_goto q45_182 ?_
          rw [nI_1, g2]
          by_cases hd2 : dp < 32
          · rw [if_pos hd2, if_pos hd2] at hQ
            rw [if_pos hd2, if_pos hd2, stI_C, hI_C, stC_C]
            exact ih (i + 1) (dp + 1) _ _ (by omega) (by omega) (by omega) hQ
          · rw [if_neg hd2, if_neg hd2] at hQ
            rw [if_neg hd2, if_neg hd2]
            exact ih (i + 1) dp _ _ (by omega) (by omega) (by omega) hQ
theorem c_worth {sz b : Nat} (hw : Lw h a) (hz : hI h a 2 = nI sz) (hz' : sz ≤ 241) (b1 : (hS h)[b]? = some (100, 6)) (hb : b ≠ a + 2) (hQ : ∀ F, Q (some (.int (wo (hI h (a + 1)) sz (hI h b) sz 0 0 (hI h (a + 2))))) (stC h (a + 2) F)) : Ct G (0, 0) (d + 2) 45 [.ref a, .ref b] h Q := by
  refine Ct_of (ls := [_, _, _, _, _]) m_45.1.2.2.1 (Nat.le_of_ble_eq_true rfl) rfl ?_
  refine wq_iconst q45_0 ?_
  refine wq_istore_n (ls' := [_, _, _, _, _]) q45_1 rfl ?_
  refine wq_iconst q45_2 ?_
  refine wq_istore_n (ls' := [_, _, _, _, _]) q45_3 rfl ?_
  have := c_worth_loop (G := G) (d := d) (x4 := none) hw hz hz' b1 hb sz 0 0 (hI h (a + 2)) none (by omega) (by omega) (by omega) hQ
  rw [stC_self h (a + 2) rfl] at this
  exact this
end LAW
