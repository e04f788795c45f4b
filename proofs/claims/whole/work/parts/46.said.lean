/-! THE CLASS: what was said -/
theorem sh1 : ∀ k, k < 8 → (1 : Int32) <<< (nI k &&& 31) = nI (2 ^ k) := by decide
/-- how many lie by a truth -/
def lcV (w wn : Nat → Int32) (T : Nat) : Int32 := bc (lbR w wn (nI T) 7 0 0)
def cdB (m v : Int32) : Bool := decide (0 < m) && decide (0 ≤ v) && decide (v ≤ 7)
def fwR (lc : Nat → Int32) : Nat → Nat → Int32 → Int32
  | 0, _, x => x
  | m + 1, T, x => fwR lc m (T + 1) (if lc T < x then lc T else x)
def trC (lc : Nat → Int32) (v i : Int32) : Nat → Nat → Int32 → Int32
  | 0, _, c => if i = -1 then c else -1
  | m + 1, T, c => if lc T ≤ v then (if c = i then nI T else trC lc v i m (T + 1) (c + 1)) else trC lc v i m (T + 1) c
def srR (lc : Nat → Int32) (v : Int32) : Nat → Nat → Int32 × Int32 × Int32 → Int32 × Int32 × Int32
  | 0, _, x => x
  | m + 1, T, x => srR lc v m (T + 1) (if lc T ≤ v then (x.1 &&& nI T, x.2.1 ||| nI T, 1) else x)
def ynR (lc : Nat → Int32) (v : Int32) (e : Int32) : Nat → Nat → Int32 × Int32 → Int32 × Int32
  | 0, _, x => x
  | m + 1, T, x => ynR lc v e m (T + 1) (if lc T ≤ v then (x.1 + (if (nI T >>> (e &&& 31)) &&& 1 = 1 then 1 else -1), 1) else x)
def ab32 (x : Int32) : Int32 := if 0 ≤ x then x else 0 - x
def ynV (lc : Nat → Int32) (v : Int32) (N e : Nat) : Int32 := if (ynR lc v (nI e) N 0 (0, 0)).2 = 0 then -1 else ab32 (ynR lc v (nI e) N 0 (0, 0)).1
def asR (g : Nat → Int32) : Nat → Nat → Int32 × Int32 → Int32 × Int32
  | 0, _, x => x
  | m + 1, e, x => asR g m (e + 1) (if ¬ g e = -1 ∧ g e < x.2 then (nI e, g e) else x)
def laR (L : Nat → Int32) (fw : Int32) : Nat → Nat → Int32 → Int32
  | 0, _, x => x
  | m + 1, T, x => laR L fw m (T + 1) (if bc (L T) = fw then x &&& L T else x)
section SAID
variable {G : ph_G} {d a r n f dr t sz : Nat} {hi : Nat → Nat → Int32} {hl : Nat → Nat → Int64} {Q : Option Value → ph_H → Prop} {lw : Option Nat}
theorem c_canDoubt {v : Int32} (hf : Fok f) (hQ : Q (some (.int (if cdB (hi f 3) v = true then 1 else 0))) (HP hi hl f dr t)) : Ct G (0, 0) (d + 1) 161 [.ref 0, .int v] (HP hi hl f dr t) Q := by
  have zero : ∀ {ls : List (Option Value)}, cdB (hi f 3) v = false → wq G (0, 0) (d + 1) 161 21 ls [] (0, 0) (HP hi hl f dr t) Q := by
    intro ls hb
    rw [hb] at hQ
    refine wq_iconst q161_21 ?_
    refine rI q161_22 rfl ?_
    exact hQ
  refine Ct_of (ls := [_, _]) m_161.1.2.2.1 (Nat.le_of_ble_eq_true rfl) rfl ?_
  refine wq_aload_n q161_0 rfl ?_
  refine cV (As := []) q161_1 m_102 rfl rfl rfl ⟨by decide, rfl⟩ rfl (c_hasFort hf ?_)
  refine wq_if_eq q161_4 (fun c4 => ?_) (fun c4 => ?_)
  · have c := p01 c4
    exact zero (by simp [cdB, c])
  · have c := p10 c4
    refine wq_iload_n q161_7 rfl ?_
    refine wq_if_lt q161_8 (fun c8 => ?_) (fun c8 => ?_)
    · exact zero (by simp [cdB, Int32.not_le.mpr c8])
    · refine wq_iload_n q161_11 rfl ?_
      refine wq_bipush q161_12 ?_
      refine wq_icmp_gt q161_14 (fun c14 => ?_) (fun c14 => ?_)
      · exact zero (by simp [cdB, Int32.not_le.mpr c14])
      · have : cdB (hi f 3) v = true := by simp [cdB, c, Int32.not_lt.mp c8, Int32.not_lt.mp c14]
        rw [this] at hQ
        refine wq_iconst q161_17 ?_
        refine wq_goto q161_18 ?_
        refine rI q161_22 rfl ?_
        exact hQ
theorem c_liarsBy2 {T : Nat} (hQ : Q (some (.int (lcV (hi 55) (hi 56) T))) (HP hi hl f dr t)) : Ct G (0, 0) (d + 2) 163 [.ref 0, .int (nI T)] (HP hi hl f dr t) Q := by
  refine Ct_of (ls := [_, _]) m_163.1.2.2.1 (Nat.le_of_ble_eq_true rfl) rfl ?_
  refine wq_aload_n q163_0 rfl ?_
  refine wq_getR q163_1 rfl rfl rfl ?_
  refine wq_iload_n q163_4 rfl ?_
  refine cV (As := [_]) q163_5 m_85 rfl rfl rfl ⟨by decide, rfl⟩ rfl (c_liarsBy ?_)
  refine cS' (As := [_]) q163_8 m_295 rfl rfl rfl (c_bitCount ?_)
  refine rI q163_11 rfl ?_
  exact hQ
theorem c_allT {ev : Nat} (hf : Fok f) (hev : ev ≤ 6) (hc4 : hi f 4 = nI ev) (hQ : Q (some (.int (nI (2 ^ ev)))) (HP hi hl f dr t)) : Ct G (0, 0) d 162 [.ref 0] (HP hi hl f dr t) Q := by
  refine c_allTruths hf ?_
  rw [hc4, sh1 ev (by omega)]
  exact hQ
theorem pw6 {ev : Nat} (hev : ev ≤ 6) : 2 ^ ev ≤ 64 := by
  have : ev = 0 ∨ ev = 1 ∨ ev = 2 ∨ ev = 3 ∨ ev = 4 ∨ ev = 5 ∨ ev = 6 := by omega
  rcases this with rfl | rfl | rfl | rfl | rfl | rfl | rfl <;> decide
theorem c_fewest_loop {ev : Nat} (hf : Fok f) (hev : ev ≤ 6) (hc4 : hi f 4 = nI ev) : ∀ (m T : Nat) (x : Int32), T + m = 2 ^ ev → Q (some (.int (fwR (lcV (hi 55) (hi 56)) m T x))) (HP hi hl f dr t) →
    wq G (0, 0) (d + 3) 164 5 [some (.ref 0), some (.int x), some (.int (nI T))] [] (0, 0) (HP hi hl f dr t) Q := by
  have h64 := pw6 hev
  intro m
  induction m with
  | zero =>
    intro T x hm hQ
    refine wq_iload_n q164_5 rfl ?_
    refine wq_aload_n q164_6 rfl ?_
    refine cV (As := []) q164_7 m_162 rfl rfl rfl ⟨by decide, rfl⟩ rfl (c_allT hf hev hc4 ?_)
    refine wq_icmp_ge q164_10 (fun c10 => ?_) (fun c10 => ?_)
    · refine wq_iload_n q164_29 rfl ?_
      refine rI q164_30 rfl ?_
      exact hQ
    · rw [nI_leI (by omega) (by omega)] at c10
      omega
  | succ m ih =>
    intro T x hm hQ
    refine wq_iload_n q164_5 rfl ?_
    refine wq_aload_n q164_6 rfl ?_
    refine cV (As := []) q164_7 m_162 rfl rfl rfl ⟨by decide, rfl⟩ rfl (c_allT hf hev hc4 ?_)
    refine wq_icmp_ge q164_10 (fun c10 => ?_) (fun c10 => ?_)
    · rw [nI_leI (by omega) (by omega)] at c10
      omega
    · refine wq_iload_n q164_13 rfl ?_
      refine wq_aload_n q164_14 rfl ?_
      refine wq_iload_n q164_15 rfl ?_
      refine cV (As := [_]) q164_16 m_163 rfl rfl rfl ⟨by decide, rfl⟩ rfl (c_liarsBy2 ?_)
      refine wq_min q164_19 ⟨Nat.le.refl, Nat.le.refl, Nat.le_of_ble_eq_true rfl⟩ ?_
      refine wq_istore_n (ls' := [_, _, _]) q164_22 rfl ?_
      refine wq_iinc (ls' := [_, _, _]) q164_23 rfl rfl ?_
      refine wq_goto q164_26 ?_
      rw [nI_1]
      exact ih (T + 1) _ (by omega) hQ
theorem c_fewestLiars {ev : Nat} (hf : Fok f) (hev : ev ≤ 6) (hc4 : hi f 4 = nI ev) (hQ : Q (some (.int (fwR (lcV (hi 55) (hi 56)) (2 ^ ev) 0 7))) (HP hi hl f dr t)) : Ct G (0, 0) (d + 3) 164 [.ref 0] (HP hi hl f dr t) Q := by
  refine Ct_of (ls := [_, _, _]) m_164.1.2.2.1 (Nat.le_of_ble_eq_true rfl) rfl ?_
  refine wq_bipush q164_0 ?_
  refine wq_istore_n (ls' := [_, _, _]) q164_2 rfl ?_
  refine wq_iconst q164_3 ?_
  refine wq_istore_n (ls' := [_, _, _]) q164_4 rfl ?_
  exact c_fewest_loop hf hev hc4 (2 ^ ev) 0 7 (by omega) hQ
theorem c_least {ev : Nat} (hf : Fok f) (hev : ev ≤ 6) (hc4 : hi f 4 = nI ev) (hQ : Q (some (.int (if 0 < hi f 3 then fwR (lcV (hi 55) (hi 56)) (2 ^ ev) 0 7 else -1))) (HP hi hl f dr t)) : Ct G (0, 0) (d + 4) 155 [.ref 0] (HP hi hl f dr t) Q := by
  refine Ct_of (ls := [_]) m_155.1.2.2.1 (Nat.le_of_ble_eq_true rfl) rfl ?_
  refine wq_aload_n q155_0 rfl ?_
  refine cV (As := []) q155_1 m_102 rfl rfl rfl ⟨by decide, rfl⟩ rfl (c_hasFort hf ?_)
  refine wq_if_eq q155_4 (fun c4 => ?_) (fun c4 => ?_)
  · have c := p01 c4
    rw [if_neg c] at hQ
    refine wq_iconst q155_14 ?_
    refine rI q155_15 rfl ?_
    exact hQ
  · have c := p10 c4
    rw [if_pos c] at hQ
    refine wq_aload_n q155_7 rfl ?_
    refine cV (As := []) q155_8 m_164 rfl rfl rfl ⟨by decide, rfl⟩ rfl (c_fewestLiars hf hev hc4 ?_)
    refine wq_goto q155_11 ?_
    refine rI q155_15 rfl ?_
    exact hQ
theorem c_truths_loop {ev : Nat} {v i : Int32} (hf : Fok f) (hev : ev ≤ 6) (hc4 : hi f 4 = nI ev) : ∀ (m T : Nat) (c : Int32), T + m = 2 ^ ev → Q (some (.int (trC (lcV (hi 55) (hi 56)) v i m T c))) (HP hi hl f dr t) →
    wq G (0, 0) (d + 3) 156 20 [some (.ref 0), some (.int v), some (.int i), some (.int c), some (.int (nI T))] [] (0, 0) (HP hi hl f dr t) Q := by
  have h64 := pw6 hev
  intro m
  induction m with
  | zero =>
    intro T c hm hQ
    rw [trC] at hQ
    refine wq_iload q156_20 rfl ?_
    refine wq_aload_n q156_22 rfl ?_
    refine cV (As := []) q156_23 m_162 rfl rfl rfl ⟨by decide, rfl⟩ rfl (c_allT hf hev hc4 ?_)
    refine wq_icmp_ge q156_26 (fun c26 => ?_) (fun c26 => ?_)
    · refine wq_iload_n q156_56 rfl ?_
      refine wq_iconst q156_57 ?_
      refine wq_icmp_ne q156_58 (fun c58 => ?_) (fun c58 => ?_)
      · rw [if_neg c58] at hQ
        refine wq_iconst q156_65 ?_
        refine rI q156_66 rfl ?_
        exact hQ
      · rw [if_pos c58] at hQ
        refine wq_iload_n q156_61 rfl ?_
        refine wq_goto q156_62 ?_
        refine rI q156_66 rfl ?_
        exact hQ
    · rw [nI_leI (by omega) (by omega)] at c26
      omega
  | succ m ih =>
    intro T c hm hQ
    rw [trC] at hQ
    refine wq_iload q156_20 rfl ?_
    refine wq_aload_n q156_22 rfl ?_
    refine cV (As := []) q156_23 m_162 rfl rfl rfl ⟨by decide, rfl⟩ rfl (c_allT hf hev hc4 ?_)
    refine wq_icmp_ge q156_26 (fun c26 => ?_) (fun c26 => ?_)
    · rw [nI_leI (by omega) (by omega)] at c26
      omega
    · refine wq_aload_n q156_29 rfl ?_
      refine wq_iload q156_30 rfl ?_
      refine cV (As := [_]) q156_32 m_163 rfl rfl rfl ⟨by decide, rfl⟩ rfl (c_liarsBy2 ?_)
      refine wq_iload_n q156_35 rfl ?_
      refine wq_icmp_gt q156_36 (fun c36 => ?_) (fun c36 => ?_)
      · rw [if_neg (Int32.not_le.mpr c36)] at hQ
        refine wq_iinc (ls' := [_, _, _, _, _]) q156_50 rfl rfl ?_
        refine wq_goto q156_53 ?_
        rw [nI_1]
        exact ih (T + 1) _ (by omega) hQ
      · rw [if_pos (Int32.not_lt.mp c36)] at hQ
        refine wq_iload_n q156_39 rfl ?_
        refine wq_iload_n q156_40 rfl ?_
        refine wq_icmp_ne q156_41 (fun c41 => ?_) (fun c41 => ?_)
        · rw [if_neg c41] at hQ
          refine wq_iinc (ls' := [_, _, _, _, _]) q156_47 rfl rfl ?_
          refine wq_iinc (ls' := [_, _, _, _, _]) q156_50 rfl rfl ?_
          refine wq_goto q156_53 ?_
          rw [nI_1]
          exact ih (T + 1) _ (by omega) hQ
        · rw [if_pos c41] at hQ
          refine wq_iload q156_44 rfl ?_
          refine rI q156_46 rfl ?_
          exact hQ
theorem c_truths {ev : Nat} {v i : Int32} (hf : Fok f) (hev : ev ≤ 6) (hc4 : hi f 4 = nI ev) (hQ : Q (some (.int (if cdB (hi f 3) v = true ∧ -1 ≤ i then trC (lcV (hi 55) (hi 56)) v i (2 ^ ev) 0 0 else -1))) (HP hi hl f dr t)) : Ct G (0, 0) (d + 3) 156 [.ref 0, .int v, .int i] (HP hi hl f dr t) Q := by
  refine Ct_of (ls := [_, _, _, _, _]) m_156.1.2.2.1 (Nat.le_of_ble_eq_true rfl) rfl ?_
  refine wq_aload_n q156_0 rfl ?_
  refine wq_iload_n q156_1 rfl ?_
  refine cV (As := [_]) q156_2 m_161 rfl rfl rfl ⟨by decide, rfl⟩ rfl (c_canDoubt hf ?_)
  refine wq_if_eq q156_5 (fun c5 => ?_) (fun c5 => ?_)
  · have c := i01 c5
    rw [if_neg (fun z => by rw [c] at z; cases z.1)] at hQ
    refine wq_iconst q156_13 ?_
    refine rI q156_14 rfl ?_
    exact hQ
  · have c := i10 c5
    refine wq_iload_n q156_8 rfl ?_
    refine wq_iconst q156_9 ?_
    refine wq_icmp_ge q156_10 (fun c10 => ?_) (fun c10 => ?_)
    · rw [if_pos ⟨c, c10⟩] at hQ
      refine wq_iconst q156_15 ?_
      refine wq_istore_n (ls' := [_, _, _, _, _]) q156_16 rfl ?_
      refine wq_iconst q156_17 ?_
      refine wq_istore (ls' := [_, _, _, _, _]) q156_18 rfl ?_
      exact c_truths_loop hf hev hc4 (2 ^ ev) 0 0 (by omega) hQ
    · rw [if_neg (fun z => c10 z.2)] at hQ
      refine wq_iconst q156_13 ?_
      refine rI q156_14 rfl ?_
      exact hQ
theorem c_sure_loop {ev : Nat} {v w : Int32} (hf : Fok f) (hev : ev ≤ 6) (hc4 : hi f 4 = nI ev) : ∀ (m T : Nat) (x : Int32 × Int32 × Int32), T + m = 2 ^ ev → Q (some (.int (if (srR (lcV (hi 55) (hi 56)) v m T x).2.2 = 0 then -1 else if w = 0 then (srR (lcV (hi 55) (hi 56)) v m T x).1 else nI (2 ^ ev) - 1 - (srR (lcV (hi 55) (hi 56)) v m T x).2.1))) (HP hi hl f dr t) →
    wq G (0, 0) (d + 3) 157 35 [some (.ref 0), some (.int v), some (.int w), some (.int x.1), some (.int x.2.1), some (.int x.2.2), some (.int (nI T))] [] (0, 0) (HP hi hl f dr t) Q := by
  have h64 := pw6 hev
  intro m
  induction m with
  | zero =>
    intro T x hm hQ
    have e0 : srR (lcV (hi 55) (hi 56)) v 0 T x = x := rfl
    rw [e0] at hQ
    refine wq_iload q157_35 rfl ?_
    refine wq_aload_n q157_37 rfl ?_
    refine cV (As := []) q157_38 m_162 rfl rfl rfl ⟨by decide, rfl⟩ rfl (c_allT hf hev hc4 ?_)
    refine wq_icmp_ge q157_41 (fun c41 => ?_) (fun c41 => ?_)
    · refine wq_iload q157_75 rfl ?_
      refine wq_if_ne q157_77 (fun c77 => ?_) (fun c77 => ?_)
      · rw [if_neg c77] at hQ
        refine wq_iload_n q157_82 rfl ?_
        refine wq_if_ne q157_83 (fun c83 => ?_) (fun c83 => ?_)
        · rw [if_neg c83] at hQ
          refine wq_aload_n q157_90 rfl ?_
          refine cV (As := []) q157_91 m_162 rfl rfl rfl ⟨by decide, rfl⟩ rfl (c_allT hf hev hc4 ?_)
          refine wq_iconst q157_94 ?_
          refine wq_isub q157_95 ?_
          refine wq_iload q157_96 rfl ?_
          refine wq_isub q157_98 ?_
          refine rI q157_99 rfl ?_
          exact hQ
        · rw [if_pos c83] at hQ
          refine wq_iload_n q157_86 rfl ?_
          refine wq_goto q157_87 ?_
          refine rI q157_99 rfl ?_
          exact hQ
      · rw [if_pos c77] at hQ
        refine wq_iconst q157_80 ?_
        refine rI q157_81 rfl ?_
        exact hQ
    · rw [nI_leI (by omega) (by omega)] at c41
      omega
  | succ m ih =>
    intro T x hm hQ
    refine wq_iload q157_35 rfl ?_
    refine wq_aload_n q157_37 rfl ?_
    refine cV (As := []) q157_38 m_162 rfl rfl rfl ⟨by decide, rfl⟩ rfl (c_allT hf hev hc4 ?_)
    refine wq_icmp_ge q157_41 (fun c41 => ?_) (fun c41 => ?_)
    · rw [nI_leI (by omega) (by omega)] at c41
      omega
    · refine wq_aload_n q157_44 rfl ?_
      refine wq_iload q157_45 rfl ?_
      refine cV (As := [_]) q157_47 m_163 rfl rfl rfl ⟨by decide, rfl⟩ rfl (c_liarsBy2 ?_)
      refine wq_iload_n q157_50 rfl ?_
      refine wq_icmp_gt q157_51 (fun c51 => ?_) (fun c51 => ?_)
      · rw [srR, if_neg (Int32.not_le.mpr c51)] at hQ
        refine wq_iinc (ls' := [_, _, _, _, _, _, _]) q157_69 rfl rfl ?_
        refine wq_goto q157_72 ?_
        rw [nI_1]
        exact ih (T + 1) x (by omega) hQ
      · rw [srR, if_pos (Int32.not_lt.mp c51)] at hQ
        refine wq_iload_n q157_54 rfl ?_
        refine wq_iload q157_55 rfl ?_
        refine wq_iand q157_57 ?_
        refine wq_istore_n (ls' := [_, _, _, _, _, _, _]) q157_58 rfl ?_
        refine wq_iload q157_59 rfl ?_
        refine wq_iload q157_61 rfl ?_
        refine wq_ior q157_63 ?_
        refine wq_istore (ls' := [_, _, _, _, _, _, _]) q157_64 rfl ?_
        refine wq_iconst q157_66 ?_
        refine wq_istore (ls' := [_, _, _, _, _, _, _]) q157_67 rfl ?_
        refine wq_iinc (ls' := [_, _, _, _, _, _, _]) q157_69 rfl rfl ?_
        refine wq_goto q157_72 ?_
        rw [nI_1]
        exact ih (T + 1) (x.1 &&& nI T, x.2.1 ||| nI T, 1) (by omega) hQ
theorem c_sure {ev : Nat} {v w : Int32} (hf : Fok f) (hev : ev ≤ 6) (hc4 : hi f 4 = nI ev) (h0 : ¬ (cdB (hi f 3) v = true ∧ 0 ≤ w ∧ w ≤ 1) → Q (some (.int (-1))) (HP hi hl f dr t))
    (h1 : cdB (hi f 3) v = true → 0 ≤ w → w ≤ 1 → Q (some (.int (if (srR (lcV (hi 55) (hi 56)) v (2 ^ ev) 0 (nI (2 ^ ev) - 1, 0, 0)).2.2 = 0 then -1 else if w = 0 then (srR (lcV (hi 55) (hi 56)) v (2 ^ ev) 0 (nI (2 ^ ev) - 1, 0, 0)).1 else nI (2 ^ ev) - 1 - (srR (lcV (hi 55) (hi 56)) v (2 ^ ev) 0 (nI (2 ^ ev) - 1, 0, 0)).2.1))) (HP hi hl f dr t)) : Ct G (0, 0) (d + 3) 157 [.ref 0, .int v, .int w] (HP hi hl f dr t) Q := by
  refine Ct_of (ls := [_, _, _, _, _, _, _]) m_157.1.2.2.1 (Nat.le_of_ble_eq_true rfl) rfl ?_
  refine wq_aload_n q157_0 rfl ?_
  refine wq_iload_n q157_1 rfl ?_
  refine cV (As := [_]) q157_2 m_161 rfl rfl rfl ⟨by decide, rfl⟩ rfl (c_canDoubt hf ?_)
  refine wq_if_eq q157_5 (fun c5 => ?_) (fun c5 => ?_)
  · have c := i01 c5
    refine wq_iconst q157_17 ?_
    refine rI q157_18 rfl ?_
    exact h0 (fun z => by rw [c] at z; cases z.1)
  · have c := i10 c5
    refine wq_iload_n q157_8 rfl ?_
    refine wq_if_lt q157_9 (fun c9 => ?_) (fun c9 => ?_)
    · refine wq_iconst q157_17 ?_
      refine rI q157_18 rfl ?_
      exact h0 (fun z => absurd z.2.1 (Int32.not_le.mpr c9))
    · refine wq_iload_n q157_12 rfl ?_
      refine wq_iconst q157_13 ?_
      refine wq_icmp_le q157_14 (fun c14 => ?_) (fun c14 => ?_)
      · refine wq_aload_n q157_19 rfl ?_
        refine cV (As := []) q157_20 m_162 rfl rfl rfl ⟨by decide, rfl⟩ rfl (c_allT hf hev hc4 ?_)
        refine wq_iconst q157_23 ?_
        refine wq_isub q157_24 ?_
        refine wq_istore_n (ls' := [_, _, _, _, _, _, _]) q157_25 rfl ?_
        refine wq_iconst q157_26 ?_
        refine wq_istore (ls' := [_, _, _, _, _, _, _]) q157_27 rfl ?_
        refine wq_iconst q157_29 ?_
        refine wq_istore (ls' := [_, _, _, _, _, _, _]) q157_30 rfl ?_
        refine wq_iconst q157_32 ?_
        refine wq_istore (ls' := [_, _, _, _, _, _, _]) q157_33 rfl ?_
        exact c_sure_loop hf hev hc4 (2 ^ ev) 0 (nI (2 ^ ev) - 1, 0, 0) (by omega) (h1 c (Int32.not_lt.mp c9) c14)
      · refine wq_iconst q157_17 ?_
        refine rI q157_18 rfl ?_
        exact h0 (fun z => c14 z.2.2)
theorem c_yes_loop {ev : Nat} {e v : Int32} (hf : Fok f) (hev : ev ≤ 6) (hc4 : hi f 4 = nI ev) : ∀ (m T : Nat) (x : Int32 × Int32), T + m = 2 ^ ev → Q (some (.int (if (ynR (lcV (hi 55) (hi 56)) v e m T x).2 = 0 then -1 else ab32 (ynR (lcV (hi 55) (hi 56)) v e m T x).1))) (HP hi hl f dr t) →
    wq G (0, 0) (d + 3) 165 8 [some (.ref 0), some (.int e), some (.int v), some (.int x.1), some (.int x.2), some (.int (nI T))] [] (0, 0) (HP hi hl f dr t) Q := by
  have h64 := pw6 hev
  intro m
  induction m with
  | zero =>
    intro T x hm hQ
    have e0 : ynR (lcV (hi 55) (hi 56)) v e 0 T x = x := rfl
    rw [e0] at hQ
    refine wq_iload q165_8 rfl ?_
    refine wq_aload_n q165_10 rfl ?_
    refine cV (As := []) q165_11 m_162 rfl rfl rfl ⟨by decide, rfl⟩ rfl (c_allT hf hev hc4 ?_)
    refine wq_icmp_ge q165_14 (fun c14 => ?_) (fun c14 => ?_)
    · refine wq_iload q165_54 rfl ?_
      refine wq_if_eq q165_56 (fun c56 => ?_) (fun c56 => ?_)
      · rw [if_pos c56] at hQ
        refine wq_iconst q165_66 ?_
        refine rI q165_67 rfl ?_
        exact hQ
      · rw [if_neg c56] at hQ
        refine wq_iload_n q165_59 rfl ?_
        refine wq_abs q165_60 ⟨Nat.le.refl, Nat.le.refl, Nat.le_of_ble_eq_true rfl⟩ ?_
        refine wq_goto q165_63 ?_
        refine rI q165_67 rfl ?_
        exact hQ
    · rw [nI_leI (by omega) (by omega)] at c14
      omega
  | succ m ih =>
    intro T x hm hQ
    refine wq_iload q165_8 rfl ?_
    refine wq_aload_n q165_10 rfl ?_
    refine cV (As := []) q165_11 m_162 rfl rfl rfl ⟨by decide, rfl⟩ rfl (c_allT hf hev hc4 ?_)
    refine wq_icmp_ge q165_14 (fun c14 => ?_) (fun c14 => ?_)
    · rw [nI_leI (by omega) (by omega)] at c14
      omega
    · refine wq_aload_n q165_17 rfl ?_
      refine wq_iload q165_18 rfl ?_
      refine cV (As := [_]) q165_20 m_163 rfl rfl rfl ⟨by decide, rfl⟩ rfl (c_liarsBy2 ?_)
      refine wq_iload_n q165_23 rfl ?_
      refine wq_icmp_gt q165_24 (fun c24 => ?_) (fun c24 => ?_)
      · rw [ynR, if_neg (Int32.not_le.mpr c24)] at hQ
        refine wq_iinc (ls' := [_, _, _, _, _, _]) q165_48 rfl rfl ?_
        refine wq_goto q165_51 ?_
        rw [nI_1]
        exact ih (T + 1) x (by omega) hQ
      · rw [ynR, if_pos (Int32.not_lt.mp c24)] at hQ
        refine wq_iload_n q165_27 rfl ?_
        refine wq_iload q165_28 rfl ?_
        refine wq_iload_n q165_30 rfl ?_
        refine wq_ishr q165_31 ?_
        refine wq_iconst q165_32 ?_
        refine wq_iand q165_33 ?_
        refine wq_iconst q165_34 ?_
        refine wq_icmp_ne q165_35 (fun c35 => ?_) (fun c35 => ?_)
        · rw [if_neg c35] at hQ
          refine wq_iconst q165_42 ?_
          refine wq_iadd q165_43 ?_
          refine wq_istore_n (ls' := [_, _, _, _, _, _]) q165_44 rfl ?_
          refine wq_iconst q165_45 ?_
          refine wq_istore (ls' := [_, _, _, _, _, _]) q165_46 rfl ?_
          refine wq_iinc (ls' := [_, _, _, _, _, _]) q165_48 rfl rfl ?_
          refine wq_goto q165_51 ?_
          rw [nI_1]
          exact ih (T + 1) (x.1 + -1, 1) (by omega) hQ
        · rw [if_pos c35] at hQ
          refine wq_iconst q165_38 ?_
          refine wq_goto q165_39 ?_
          refine wq_iadd q165_43 ?_
          refine wq_istore_n (ls' := [_, _, _, _, _, _]) q165_44 rfl ?_
          refine wq_iconst q165_45 ?_
          refine wq_istore (ls' := [_, _, _, _, _, _]) q165_46 rfl ?_
          refine wq_iinc (ls' := [_, _, _, _, _, _]) q165_48 rfl rfl ?_
          refine wq_goto q165_51 ?_
          rw [nI_1]
          exact ih (T + 1) (x.1 + 1, 1) (by omega) hQ
theorem c_yesLessNo {ev e : Nat} {v : Int32} (hf : Fok f) (hev : ev ≤ 6) (hc4 : hi f 4 = nI ev) (hQ : Q (some (.int (ynV (lcV (hi 55) (hi 56)) v (2 ^ ev) e))) (HP hi hl f dr t)) : Ct G (0, 0) (d + 3) 165 [.ref 0, .int (nI e), .int v] (HP hi hl f dr t) Q := by
  refine Ct_of (ls := [_, _, _, _, _, _]) m_165.1.2.2.1 (Nat.le_of_ble_eq_true rfl) rfl ?_
  refine wq_iconst q165_0 ?_
  refine wq_istore_n (ls' := [_, _, _, _, _, _]) q165_1 rfl ?_
  refine wq_iconst q165_2 ?_
  refine wq_istore (ls' := [_, _, _, _, _, _]) q165_3 rfl ?_
  refine wq_iconst q165_5 ?_
  refine wq_istore (ls' := [_, _, _, _, _, _]) q165_6 rfl ?_
  exact c_yes_loop hf hev hc4 (2 ^ ev) 0 (0, 0) (by omega) hQ
theorem c_ask_loop {ev : Nat} {v : Int32} (hf : Fok f) (hev : ev ≤ 6) (hc4 : hi f 4 = nI ev) : ∀ (m e : Nat) (x : Int32 × Int32) (x5 : Option Value), e + m = ev → Q (some (.int (asR (ynV (lcV (hi 55) (hi 56)) v (2 ^ ev)) m e x).1)) (HP hi hl f dr t) →
    wq G (0, 0) (d + 4) 158 22 [some (.ref 0), some (.int v), some (.int x.1), some (.int x.2), some (.int (nI e)), x5] [] (0, 0) (HP hi hl f dr t) Q := by
  obtain ⟨f1, -⟩ := hf.frt hi hl f dr t
  have ec : hI (HP hi hl f dr t) f 4 = nI ev := hc4
  intro m
  induction m with
  | zero =>
    intro e x x5 hm hQ
    refine wq_iload q158_22 rfl ?_
    refine wq_aload_n q158_24 rfl ?_
    refine wq_getR q158_25 (by first | exact f1 | rfl) rfl (by first | exact f1 | rfl) ?_
    refine wq_getI q158_28 (by first | exact f1 | rfl) rfl ?_
    refine wq_icmp_ge q158_31 (fun c31 => ?_) (fun c31 => ?_)
    · refine wq_iload_n q158_67 rfl ?_
      refine rI q158_68 rfl ?_
      exact hQ
    · rw [ec, nI_leI (by omega) (by omega)] at c31
      omega
  | succ m ih =>
    intro e x x5 hm hQ
    rw [asR] at hQ
    refine wq_iload q158_22 rfl ?_
    refine wq_aload_n q158_24 rfl ?_
    refine wq_getR q158_25 (by first | exact f1 | rfl) rfl (by first | exact f1 | rfl) ?_
    refine wq_getI q158_28 (by first | exact f1 | rfl) rfl ?_
    refine wq_icmp_ge q158_31 (fun c31 => ?_) (fun c31 => ?_)
    · rw [ec, nI_leI (by omega) (by omega)] at c31
      omega
    · refine wq_aload_n q158_34 rfl ?_
      refine wq_iload q158_35 rfl ?_
      refine wq_iload_n q158_37 rfl ?_
      refine cV (As := [_, _]) q158_38 m_165 rfl rfl rfl ⟨by decide, rfl⟩ rfl (c_yesLessNo hf hev hc4 ?_)
      refine wq_istore (ls' := [_, _, _, _, _, _]) q158_41 rfl ?_
      refine wq_iload q158_43 rfl ?_
      refine wq_iconst q158_45 ?_
      refine wq_icmp_eq q158_46 (fun c46 => ?_) (fun c46 => ?_)
      · rw [if_neg (fun z => z.1 c46)] at hQ
        refine wq_iinc (ls' := [_, _, _, _, _, _]) q158_61 rfl rfl ?_
        refine wq_goto q158_64 ?_
        rw [nI_1]
        exact ih (e + 1) x _ (by omega) hQ
      · refine wq_iload q158_49 rfl ?_
        refine wq_iload_n q158_51 rfl ?_
        refine wq_icmp_ge q158_52 (fun c52 => ?_) (fun c52 => ?_)
        · rw [if_neg (fun z => absurd z.2 (Int32.not_lt.mpr c52))] at hQ
          refine wq_iinc (ls' := [_, _, _, _, _, _]) q158_61 rfl rfl ?_
          refine wq_goto q158_64 ?_
          rw [nI_1]
          exact ih (e + 1) x _ (by omega) hQ
        · rw [if_pos ⟨c46, Int32.not_le.mp c52⟩] at hQ
          refine wq_iload q158_55 rfl ?_
          refine wq_istore_n (ls' := [_, _, _, _, _, _]) q158_57 rfl ?_
          refine wq_iload q158_58 rfl ?_
          refine wq_istore_n (ls' := [_, _, _, _, _, _]) q158_60 rfl ?_
          refine wq_iinc (ls' := [_, _, _, _, _, _]) q158_61 rfl rfl ?_
          refine wq_goto q158_64 ?_
          rw [nI_1]
          exact ih (e + 1) (nI e, ynV (lcV (hi 55) (hi 56)) v (2 ^ ev) e) _ (by omega) hQ
theorem c_ask {ev : Nat} {v : Int32} (hf : Fok f) (hev : ev ≤ 6) (hc4 : hi f 4 = nI ev) (hQ : Q (some (.int (if cdB (hi f 3) v = true then (asR (ynV (lcV (hi 55) (hi 56)) v (2 ^ ev)) ev 0 (-1, nI (2 ^ ev) + 1)).1 else -1))) (HP hi hl f dr t)) : Ct G (0, 0) (d + 4) 158 [.ref 0, .int v] (HP hi hl f dr t) Q := by
  refine Ct_of (ls := [_, _, _, _, _, _]) m_158.1.2.2.1 (Nat.le_of_ble_eq_true rfl) rfl ?_
  refine wq_aload_n q158_0 rfl ?_
  refine wq_iload_n q158_1 rfl ?_
  refine cV (As := [_]) q158_2 m_161 rfl rfl rfl ⟨by decide, rfl⟩ rfl (c_canDoubt hf ?_)
  refine wq_if_ne q158_5 (fun c5 => ?_) (fun c5 => ?_)
  · have c := i10 c5
    rw [if_pos c] at hQ
    refine wq_iconst q158_10 ?_
    refine wq_istore_n (ls' := [_, _, _, _, _, _]) q158_11 rfl ?_
    refine wq_aload_n q158_12 rfl ?_
    refine cV (As := []) q158_13 m_162 rfl rfl rfl ⟨by decide, rfl⟩ rfl (c_allT hf hev hc4 ?_)
    refine wq_iconst q158_16 ?_
    refine wq_iadd q158_17 ?_
    refine wq_istore_n (ls' := [_, _, _, _, _, _]) q158_18 rfl ?_
    refine wq_iconst q158_19 ?_
    refine wq_istore (ls' := [_, _, _, _, _, _]) q158_20 rfl ?_
    exact c_ask_loop hf hev hc4 ev 0 (-1, nI (2 ^ ev) + 1) _ (by omega) hQ
  · have c := i01 c5
    rw [if_neg (by rw [c]; decide)] at hQ
    refine wq_iconst q158_8 ?_
    refine rI q158_9 rfl ?_
    exact hQ
theorem c_liars_loop {ev : Nat} {fw : Int32} (hf : Fok f) (hev : ev ≤ 6) (hc4 : hi f 4 = nI ev) : ∀ (m T : Nat) (x : Int32) (x4 : Option Value), T + m = 2 ^ ev → Q (some (.int (laR (fun T => lbR (hi 55) (hi 56) (nI T) 7 0 0) fw m T x))) (HP hi hl f dr t) →
    wq G (0, 0) (d + 3) 159 28 [some (.ref 0), some (.int fw), some (.int x), some (.int (nI T)), x4] [] (0, 0) (HP hi hl f dr t) Q := by
  have h64 := pw6 hev
  intro m
  induction m with
  | zero =>
    intro T x x4 hm hQ
    refine wq_iload_n q159_28 rfl ?_
    refine wq_aload_n q159_29 rfl ?_
    refine cV (As := []) q159_30 m_162 rfl rfl rfl ⟨by decide, rfl⟩ rfl (c_allT hf hev hc4 ?_)
    refine wq_icmp_ge q159_33 (fun c33 => ?_) (fun c33 => ?_)
    · refine wq_iload_n q159_66 rfl ?_
      refine rI q159_67 rfl ?_
      exact hQ
    · rw [nI_leI (by omega) (by omega)] at c33
      omega
  | succ m ih =>
    intro T x x4 hm hQ
    rw [laR] at hQ
    refine wq_iload_n q159_28 rfl ?_
    refine wq_aload_n q159_29 rfl ?_
    refine cV (As := []) q159_30 m_162 rfl rfl rfl ⟨by decide, rfl⟩ rfl (c_allT hf hev hc4 ?_)
    refine wq_icmp_ge q159_33 (fun c33 => ?_) (fun c33 => ?_)
    · rw [nI_leI (by omega) (by omega)] at c33
      omega
    · refine wq_aload_n q159_36 rfl ?_
      refine wq_getR q159_37 rfl rfl rfl ?_
      refine wq_iload_n q159_40 rfl ?_
      refine cV (As := [_]) q159_41 m_85 rfl rfl rfl ⟨by decide, rfl⟩ rfl (c_liarsBy ?_)
      refine wq_istore (ls' := [_, _, _, _, _]) q159_44 rfl ?_
      refine wq_iload q159_46 rfl ?_
      refine cS' (As := [_]) q159_48 m_295 rfl rfl rfl (c_bitCount ?_)
      refine wq_iload_n q159_51 rfl ?_
      refine wq_icmp_ne q159_52 (fun c52 => ?_) (fun c52 => ?_)
      · rw [if_neg c52] at hQ
        refine wq_iinc (ls' := [_, _, _, _, _]) q159_60 rfl rfl ?_
        refine wq_goto q159_63 ?_
        rw [nI_1]
        exact ih (T + 1) _ _ (by omega) hQ
      · rw [if_pos c52] at hQ
        refine wq_iload_n q159_55 rfl ?_
        refine wq_iload q159_56 rfl ?_
        refine wq_iand q159_58 ?_
        refine wq_istore_n (ls' := [_, _, _, _, _]) q159_59 rfl ?_
        refine wq_iinc (ls' := [_, _, _, _, _]) q159_60 rfl rfl ?_
        refine wq_goto q159_63 ?_
        rw [nI_1]
        exact ih (T + 1) _ _ (by omega) hQ
theorem c_liars {ev : Nat} (hf : Fok f) (hev : ev ≤ 6) (hc4 : hi f 4 = nI ev) (hQ : Q (some (.int (if 0 < hi f 3 then laR (fun T => lbR (hi 55) (hi 56) (nI T) 7 0 0) (fwR (lcV (hi 55) (hi 56)) (2 ^ ev) 0 7) (2 ^ ev) 0 (1 <<< (hi f 3 &&& 31) - 1) else -1))) (HP hi hl f dr t)) : Ct G (0, 0) (d + 4) 159 [.ref 0] (HP hi hl f dr t) Q := by
  obtain ⟨f1, -⟩ := hf.frt hi hl f dr t
  refine Ct_of (ls := [_, _, _, _, _]) m_159.1.2.2.1 (Nat.le_of_ble_eq_true rfl) rfl ?_
  refine wq_aload_n q159_0 rfl ?_
  refine cV (As := []) q159_1 m_102 rfl rfl rfl ⟨by decide, rfl⟩ rfl (c_hasFort hf ?_)
  refine wq_if_ne q159_4 (fun c4 => ?_) (fun c4 => ?_)
  · have c := p10 c4
    rw [if_pos c] at hQ
    refine wq_aload_n q159_9 rfl ?_
    refine cV (As := []) q159_10 m_164 rfl rfl (by first | exact f1 | rfl) ⟨by decide, rfl⟩ rfl (c_fewestLiars hf hev hc4 ?_)
    refine wq_istore_n (ls' := [_, _, _, _, _]) q159_13 rfl ?_
    refine wq_iconst q159_14 ?_
    refine wq_aload_n q159_15 rfl ?_
    refine wq_getR q159_16 (by first | exact f1 | rfl) rfl (by first | exact f1 | rfl) ?_
    refine wq_getI q159_19 (by first | exact f1 | rfl) rfl ?_
    refine wq_ishl q159_22 ?_
    refine wq_iconst q159_23 ?_
    refine wq_isub q159_24 ?_
    refine wq_istore_n (ls' := [_, _, _, _, _]) q159_25 rfl ?_
    refine wq_iconst q159_26 ?_
    refine wq_istore_n (ls' := [_, _, _, _, _]) q159_27 rfl ?_
    exact c_liars_loop hf hev hc4 (2 ^ ev) 0 _ _ (by omega) hQ
  · have c := p01 c4
    rw [if_neg c] at hQ
    refine wq_iconst q159_7 ?_
    refine rI q159_8 rfl ?_
    exact hQ
theorem c_said {ev : Nat} {x y w : Int32} (hf : Fok f) (hn : n ≤ 7) (hc : hi f 3 = nI n) (hc4 : hi f 4 = nI ev) (hev : ev ≤ 6) (h0 : ¬ (inB x (hi f 3) = true ∧ inB y (hi f 4) = true ∧ hi 54 2 < 16) → Q (some (.int (-1))) (HP hi hl f dr t))
    (h1 : ∀ p v, p < n → v < ev → x = nI p → y = nI v → hi 54 2 < 16 → Q (some (.int (hi 54 2 + 1))) (HP (up2 (if w = 0 then up2 hi 56 p (hi 56 p ||| (1 <<< (nI v &&& 31))) else up2 hi 55 p (hi 55 p ||| (1 <<< (nI v &&& 31)))) 54 2 (hi 54 2 + 1)) hl f dr t)) : Ct G (0, 0) (d + 1) 154 [.ref 0, .int x, .int y, .int w] (HP hi hl f dr t) Q := by
  refine Ct_of (ls := [_, _, _, _]) m_154.1.2.2.1 (Nat.le_of_ble_eq_true rfl) rfl ?_
  refine wq_aload_n q154_0 rfl ?_
  refine wq_iload_n q154_1 rfl ?_
  refine cV (As := [_]) q154_2 m_103 rfl rfl rfl ⟨by decide, rfl⟩ rfl (c_isPrisoner hf ?_)
  refine wq_if_eq q154_5 (fun c5 => ?_) (fun c5 => ?_)
  · have c := i01 c5
    refine wq_iconst q154_28 ?_
    refine rI q154_29 rfl ?_
    exact h0 (fun z => by rw [c] at z; cases z.1)
  · have c := i10 c5
    refine wq_aload_n q154_8 rfl ?_
    refine wq_iload_n q154_9 rfl ?_
    refine cV (As := [_]) q154_10 m_105 rfl rfl rfl ⟨by decide, rfl⟩ rfl (c_isEvent hf ?_)
    refine wq_if_eq q154_13 (fun c13 => ?_) (fun c13 => ?_)
    · have c2 := i01 c13
      refine wq_iconst q154_28 ?_
      refine rI q154_29 rfl ?_
      exact h0 (fun z => by rw [c2] at z; cases z.2.1)
    · have c2 := i10 c13
      refine wq_aload_n q154_16 rfl ?_
      refine wq_getR q154_17 rfl rfl rfl ?_
      refine wq_getI q154_20 rfl rfl ?_
      refine wq_bipush q154_23 ?_
      refine wq_icmp_lt q154_25 (fun c25 => ?_) (fun c25 => ?_)
      · rw [hc] at c
        rw [hc4] at c2
        obtain ⟨p, hp, rfl⟩ := inB_N (m := n) (by omega) c
        obtain ⟨v, hv, rfl⟩ := inB_N (m := ev) (by omega) c2
        refine wq_aload_n q154_30 rfl ?_
        refine wq_getR q154_31 rfl rfl rfl ?_
        refine wq_iload_n q154_34 rfl ?_
        refine wq_iload_n q154_35 rfl ?_
        refine wq_iload_n q154_36 rfl ?_
        refine cV (As := [_, _, _]) q154_37 m_82 rfl rfl rfl ⟨by decide, rfl⟩ rfl (c_hear (by omega) ?_)
        refine wq_aload_n q154_40 rfl ?_
        refine wq_getR q154_41 rfl rfl rfl ?_
        refine wq_getI q154_44 rfl rfl ?_
        refine rI q154_47 rfl ?_
        exact h1 p v hp hv rfl rfl c25
      · refine wq_iconst q154_28 ?_
        refine rI q154_29 rfl ?_
        exact h0 (fun z => c25 z.2.2)
end SAID
