/-! THE CLASS: beliefs, merits, counts -/
def lkE (ch : Nat → Int32) (tr : Int32) : Nat → Nat → Int64 → Int64
  | 0, _, x => x
  | m + 1, e, x => lkE ch tr m (e + 1) (x * (if (tr >>> (nI e &&& 31)) &&& 1 = 1 then (ch e).toInt64 else (10 - ch e).toInt64))
def lkP (ho w wn : Nat → Int32) (tr : Int32) : Nat → Nat → Int64 → Int64
  | 0, _, x => x
  | m + 1, p, x => lkP ho w wn tr m (p + 1) (if w p ||| wn p = 0 then x else x * (if liB (w p) (wn p) tr = true then (10 - ho p).toInt64 else (ho p).toInt64))
/-- how likely a truth is -/
def lkV (hi : Nat → Nat → Int32) (f n ev : Nat) (T : Nat) : Int64 := lkP (fun p => hi (f + 2) (p * 5 + 2)) (hi 55) (hi 56) (nI T) n 0 (lkE (fun e => hi (f + 3) (e * 2 + 1)) (nI T) ev 0 1)
def blR (g : Nat → Int64) (e : Int32) : Nat → Nat → Int64 × Int64 → Int64 × Int64
  | 0, _, x => x
  | m + 1, T, x => blR g e m (T + 1) (x.1 + g T, x.2 + (if (nI T >>> (e &&& 31)) &&& 1 = 1 then g T else 0))
def poR (al : Int64) : Nat → Int32 × Int64 → Int32
  | 0, x => x.1
  | m + 1, x => poR al m (10 * x.1 + (x.2 * 10 / al).toInt32, x.2 * 10 - x.2 * 10 / al * al)
def poV (pt al : Int64) : Int32 := if 0 < al then (if pt < al then poR al 6 (0, pt) else 1000000) else -1
section COUNT
variable {G : ph_G} {d a r n f dr t sz : Nat} {hi : Nat → Nat → Int32} {hl : Nat → Nat → Int64} {Q : Option Value → ph_H → Prop} {lw : Option Nat}
theorem c_parts_loop {h : ph_H} {pt al : Int64} (h0 : 0 < al) : ∀ (m k : Nat) (x : Int32 × Int64), k + m = 6 → Q (some (.int (poR al m x))) h →
    wq G (0, 0) d 167 27 [some (.long pt), none, some (.long al), none, some (.int x.1), some (.long x.2), none, some (.int (nI k))] [] (0, 0) h Q := by
  have hne : ¬ al = 0 := fun z => by rw [z] at h0; exact absurd h0 (by decide)
  intro m
  induction m with
  | zero =>
    intro k x hm hQ
    refine wq_iload q167_27 rfl ?_
    refine wq_bipush q167_29 ?_
    refine wq_icmp_ge q167_31 (fun c31 => ?_) (fun c31 => ?_)
    · refine wq_iload q167_67 rfl ?_
      refine rI q167_69 rfl ?_
      exact hQ
    · rw [show (6 : Int32) = nI 6 from rfl, nI_leI (by omega) (by omega)] at c31
      omega
  | succ m ih =>
    intro k x hm hQ
    refine wq_iload q167_27 rfl ?_
    refine wq_bipush q167_29 ?_
    refine wq_icmp_ge q167_31 (fun c31 => ?_) (fun c31 => ?_)
    · rw [show (6 : Int32) = nI 6 from rfl, nI_leI (by omega) (by omega)] at c31
      omega
    · refine wq_lload q167_34 rfl ?_
      refine wq_ldc2_w q167_36 ?_
      refine wq_lmul q167_39 ?_
      refine wq_lstore (ls' := [_, _, _, _, _, _, _, _]) q167_40 rfl ?_
      refine wq_bipush q167_42 ?_
      refine wq_iload q167_44 rfl ?_
      refine wq_imul q167_46 ?_
      refine wq_lload q167_47 rfl ?_
      refine wq_lload_n q167_49 rfl ?_
      refine wq_ldiv q167_50 (hne) ?_
      refine wq_l2i q167_51 ?_
      refine wq_iadd q167_52 ?_
      refine wq_istore (ls' := [_, _, _, _, _, _, _, _]) q167_53 rfl ?_
      refine wq_lload q167_55 rfl ?_
      refine wq_lload_n q167_57 rfl ?_
      refine wq_lrem q167_58 (hne) ?_
      refine wq_lstore (ls' := [_, _, _, _, _, _, _, _]) q167_59 rfl ?_
      refine wq_iinc (ls' := [_, _, _, _, _, _, _, _]) q167_61 rfl rfl ?_
      refine wq_goto q167_64 ?_
      rw [nI_1]
      exact ih (k + 1) (10 * x.1 + (x.2 * 10 / al).toInt32, x.2 * 10 - x.2 * 10 / al * al) (by omega) hQ
theorem c_partsOf {h : ph_H} {pt al : Int64} (hQ : Q (some (.int (poV pt al))) h) : Ct G (0, 0) d 167 [.long pt, .long al] h Q := by
  refine Ct_of (ls := [_, _, _, _, _, _, _, _]) m_167.1.2.2.1 (Nat.le_of_ble_eq_true rfl) rfl ?_
  refine wq_lload_n q167_0 rfl ?_
  refine wq_lconst q167_1 ?_
  refine wq_lcmp q167_2 ?_
  refine wq_if_gt q167_3 (fun c3 => ?_) (fun c3 => ?_)
  · rw [lg_cmp_gt] at c3
    refine wq_lload_n q167_8 rfl ?_
    refine wq_lload_n q167_9 rfl ?_
    refine wq_lcmp q167_10 ?_
    refine wq_if_lt q167_11 (fun c11 => ?_) (fun c11 => ?_)
    · rw [lg_cmp_lt] at c11
      rw [poV, if_pos c3, if_pos c11] at hQ
      refine wq_iconst q167_18 ?_
      refine wq_istore (ls' := [_, _, _, _, _, _, _, _]) q167_19 rfl ?_
      refine wq_lload_n q167_21 rfl ?_
      refine wq_lstore (ls' := [_, _, _, _, _, _, _, _]) q167_22 rfl ?_
      refine wq_iconst q167_24 ?_
      refine wq_istore (ls' := [_, _, _, _, _, _, _, _]) q167_25 rfl ?_
      exact c_parts_loop c3 6 0 (0, pt) (by omega) hQ
    · rw [lg_cmp_lt] at c11
      rw [poV, if_pos c3, if_neg c11] at hQ
      refine wq_ldc_w q167_14 ?_
      refine rI q167_17 rfl ?_
      exact hQ
  · rw [lg_cmp_gt] at c3
    rw [poV, if_neg c3] at hQ
    refine wq_iconst q167_6 ?_
    refine rI q167_7 rfl ?_
    exact hQ
theorem c_lik_p {tr : Int32} (hf : Fok f) (hn : n ≤ 7) (hc : hi f 3 = nI n) : ∀ (m p : Nat) (x : Int64) (y5 : Option Value), p + m = n → Q (some (.long (lkP (fun p => hi (f + 2) (p * 5 + 2)) (hi 55) (hi 56) tr m p x))) (HP hi hl f dr t) →
    wq G (0, 0) (d + 1) 166 62 [some (.ref 0), some (.int tr), some (.long x), none, some (.int (nI p)), y5] [] (0, 0) (HP hi hl f dr t) Q := by
  obtain ⟨f1, -⟩ := hf.frt hi hl f dr t
  have hF := hf.frt hi hl f dr t
  have ec : hI (HP hi hl f dr t) f 3 = nI n := hc
  intro m
  induction m with
  | zero =>
    intro p x y5 hm hQ
    refine wq_iload q166_62 rfl ?_
    refine wq_aload_n q166_64 rfl ?_
    refine wq_getR q166_65 (by first | exact f1 | rfl) rfl (by first | exact f1 | rfl) ?_
    refine wq_getI q166_68 (by first | exact f1 | rfl) rfl ?_
    refine wq_icmp_ge q166_71 (fun c71 => ?_) (fun c71 => ?_)
    · refine wq_lload_n q166_131 rfl ?_
      refine rL q166_132 ?_
      exact hQ
    · rw [ec, nI_leI (by omega) (by omega)] at c71
      omega
  | succ m ih =>
    intro p x y5 hm hQ
    rw [lkP] at hQ
    refine wq_iload q166_62 rfl ?_
    refine wq_aload_n q166_64 rfl ?_
    refine wq_getR q166_65 (by first | exact f1 | rfl) rfl (by first | exact f1 | rfl) ?_
    refine wq_getI q166_68 (by first | exact f1 | rfl) rfl ?_
    refine wq_icmp_ge q166_71 (fun c71 => ?_) (fun c71 => ?_)
    · rw [ec, nI_leI (by omega) (by omega)] at c71
      omega
    · refine wq_aload_n q166_74 rfl ?_
      refine wq_getR q166_75 rfl rfl rfl ?_
      refine wq_iload q166_78 rfl ?_
      refine cV (As := [_]) q166_80 m_83 rfl rfl rfl ⟨by decide, rfl⟩ rfl (c_spoke (by omega) ?_)
      refine wq_if_eq q166_83 (fun c83 => ?_) (fun c83 => ?_)
      · by_cases hz : hi 55 p ||| hi 56 p = 0
        · rw [if_pos hz] at hQ
          refine wq_iinc (ls' := [_, _, _, _, _, _]) q166_125 rfl rfl ?_
          refine wq_goto q166_128 ?_
          rw [nI_1]
          exact ih (p + 1) _ _ (by omega) hQ
        · rw [if_neg hz] at c83
          exact absurd c83 (by decide)
      · by_cases hz : hi 55 p ||| hi 56 p = 0
        · rw [if_pos hz] at c83
          exact absurd rfl c83
        · rw [if_neg hz] at hQ
          refine wq_aload_n q166_86 rfl ?_
          refine wq_getR q166_87 (by first | exact f1 | rfl) rfl (by first | exact f1 | rfl) ?_
          refine wq_iload q166_90 rfl ?_
          refine cV (As := [_]) q166_92 m_22 rfl rfl (by first | exact f1 | rfl) ⟨by decide, rfl⟩ rfl (c_honesty hF (by omega) ?_)
          refine wq_istore (ls' := [_, _, _, _, _, _]) q166_95 rfl ?_
          refine wq_lload_n q166_97 rfl ?_
          refine wq_aload_n q166_98 rfl ?_
          refine wq_getR q166_99 (by first | exact f1 | rfl) rfl (by first | exact f1 | rfl) ?_
          refine wq_iload q166_102 rfl ?_
          refine wq_iload_n q166_104 rfl ?_
          refine cV (As := [_, _]) q166_105 m_84 rfl rfl (by first | exact f1 | rfl) ⟨by decide, rfl⟩ rfl (c_lies (by omega) ?_)
          refine wq_if_eq q166_108 (fun c108 => ?_) (fun c108 => ?_)
          · have c := i01 c108
            rw [if_neg (by rw [c]; decide)] at hQ
            refine wq_iload q166_120 rfl ?_
            refine wq_i2l q166_122 ?_
            refine wq_lmul q166_123 ?_
            refine wq_lstore_n (ls' := [_, _, _, _, _, _]) q166_124 rfl ?_
            refine wq_iinc (ls' := [_, _, _, _, _, _]) q166_125 rfl rfl ?_
            refine wq_goto q166_128 ?_
            rw [nI_1]
            exact ih (p + 1) _ _ (by omega) hQ
          · have c := i10 c108
            rw [if_pos c] at hQ
            refine wq_bipush q166_111 ?_
            refine wq_iload q166_113 rfl ?_
            refine wq_isub q166_115 ?_
            refine wq_i2l q166_116 ?_
            refine wq_goto q166_117 ?_
            refine wq_lmul q166_123 ?_
            refine wq_lstore_n (ls' := [_, _, _, _, _, _]) q166_124 rfl ?_
            refine wq_iinc (ls' := [_, _, _, _, _, _]) q166_125 rfl rfl ?_
            refine wq_goto q166_128 ?_
            rw [nI_1]
            exact ih (p + 1) _ _ (by omega) hQ
theorem c_lik_e {ev : Nat} {tr : Int32} (hf : Fok f) (hn : n ≤ 7) (hc : hi f 3 = nI n) (hev : ev ≤ 6) (hc4 : hi f 4 = nI ev) : ∀ (m e : Nat) (x : Int64) (y5 : Option Value), e + m = ev → Q (some (.long (lkP (fun p => hi (f + 2) (p * 5 + 2)) (hi 55) (hi 56) tr n 0 (lkE (fun e => hi (f + 3) (e * 2 + 1)) tr m e x)))) (HP hi hl f dr t) →
    wq G (0, 0) (d + 1) 166 5 [some (.ref 0), some (.int tr), some (.long x), none, some (.int (nI e)), y5] [] (0, 0) (HP hi hl f dr t) Q := by
  obtain ⟨f1, -⟩ := hf.frt hi hl f dr t
  have hF := hf.frt hi hl f dr t
  have ec : hI (HP hi hl f dr t) f 4 = nI ev := hc4
  intro m
  induction m with
  | zero =>
    intro e x y5 hm hQ
    refine wq_iload q166_5 rfl ?_
    refine wq_aload_n q166_7 rfl ?_
    refine wq_getR q166_8 (by first | exact f1 | rfl) rfl (by first | exact f1 | rfl) ?_
    refine wq_getI q166_11 (by first | exact f1 | rfl) rfl ?_
    refine wq_icmp_ge q166_14 (fun c14 => ?_) (fun c14 => ?_)
    · refine wq_iconst q166_59 ?_
      refine wq_istore (ls' := [_, _, _, _, _, _]) q166_60 rfl ?_
      exact c_lik_p hf hn hc n 0 _ _ (by omega) hQ
    · rw [ec, nI_leI (by omega) (by omega)] at c14
      omega
  | succ m ih =>
    intro e x y5 hm hQ
    rw [lkE] at hQ
    refine wq_iload q166_5 rfl ?_
    refine wq_aload_n q166_7 rfl ?_
    refine wq_getR q166_8 (by first | exact f1 | rfl) rfl (by first | exact f1 | rfl) ?_
    refine wq_getI q166_11 (by first | exact f1 | rfl) rfl ?_
    refine wq_icmp_ge q166_14 (fun c14 => ?_) (fun c14 => ?_)
    · rw [ec, nI_leI (by omega) (by omega)] at c14
      omega
    · refine wq_aload_n q166_17 rfl ?_
      refine wq_getR q166_18 (by first | exact f1 | rfl) rfl (by first | exact f1 | rfl) ?_
      refine wq_iload q166_21 rfl ?_
      refine cV (As := [_]) q166_23 m_26 rfl rfl (by first | exact f1 | rfl) ⟨by decide, rfl⟩ rfl (c_chance hF (by omega) ?_)
      refine wq_istore (ls' := [_, _, _, _, _, _]) q166_26 rfl ?_
      refine wq_lload_n q166_28 rfl ?_
      refine wq_iload_n q166_29 rfl ?_
      refine wq_iload q166_30 rfl ?_
      refine wq_ishr q166_32 ?_
      refine wq_iconst q166_33 ?_
      refine wq_iand q166_34 ?_
      refine wq_iconst q166_35 ?_
      refine wq_icmp_ne q166_36 (fun c36 => ?_) (fun c36 => ?_)
      · rw [if_neg c36] at hQ
        refine wq_bipush q166_45 ?_
        refine wq_iload q166_47 rfl ?_
        refine wq_isub q166_49 ?_
        refine wq_i2l q166_50 ?_
        refine wq_lmul q166_51 ?_
        refine wq_lstore_n (ls' := [_, _, _, _, _, _]) q166_52 rfl ?_
        refine wq_iinc (ls' := [_, _, _, _, _, _]) q166_53 rfl rfl ?_
        refine wq_goto q166_56 ?_
        rw [nI_1]
        exact ih (e + 1) _ _ (by omega) hQ
      · rw [if_pos c36] at hQ
        refine wq_iload q166_39 rfl ?_
        refine wq_i2l q166_41 ?_
        refine wq_goto q166_42 ?_
        refine wq_lmul q166_51 ?_
        refine wq_lstore_n (ls' := [_, _, _, _, _, _]) q166_52 rfl ?_
        refine wq_iinc (ls' := [_, _, _, _, _, _]) q166_53 rfl rfl ?_
        refine wq_goto q166_56 ?_
        rw [nI_1]
        exact ih (e + 1) _ _ (by omega) hQ
theorem c_likelihood {ev T : Nat} (hf : Fok f) (hn : n ≤ 7) (hc : hi f 3 = nI n) (hev : ev ≤ 6) (hc4 : hi f 4 = nI ev) (hQ : Q (some (.long (lkV hi f n ev T))) (HP hi hl f dr t)) : Ct G (0, 0) (d + 1) 166 [.ref 0, .int (nI T)] (HP hi hl f dr t) Q := by
  refine Ct_of (ls := [_, _, _, _, _, _]) m_166.1.2.2.1 (Nat.le_of_ble_eq_true rfl) rfl ?_
  refine wq_lconst q166_0 ?_
  refine wq_lstore_n (ls' := [_, _, _, _, _, _]) q166_1 rfl ?_
  refine wq_iconst q166_2 ?_
  refine wq_istore (ls' := [_, _, _, _, _, _]) q166_3 rfl ?_
  exact c_lik_e hf hn hc hev hc4 ev 0 1 _ (by omega) hQ
theorem c_belief_loop {ev : Nat} {e : Int32} (hf : Fok f) (hn : n ≤ 7) (hc : hi f 3 = nI n) (hev : ev ≤ 6) (hc4 : hi f 4 = nI ev) : ∀ (m T : Nat) (x : Int64 × Int64) (y7 : Option Value), T + m = 2 ^ ev → Q (some (.int (poV (blR (lkV hi f n ev) e m T x).2 (blR (lkV hi f n ev) e m T x).1))) (HP hi hl f dr t) →
    wq G (0, 0) (d + 2) 160 18 [some (.ref 0), some (.int e), some (.long x.1), none, some (.long x.2), none, some (.int (nI T)), y7, none] [] (0, 0) (HP hi hl f dr t) Q := by
  have h64 := pw6 hev
  intro m
  induction m with
  | zero =>
    intro T x y7 hm hQ
    refine wq_iload q160_18 rfl ?_
    refine wq_aload_n q160_20 rfl ?_
    refine cV (As := []) q160_21 m_162 rfl rfl rfl ⟨by decide, rfl⟩ rfl (c_allT hf hev hc4 ?_)
    refine wq_icmp_ge q160_24 (fun c24 => ?_) (fun c24 => ?_)
    · refine wq_lload q160_67 rfl ?_
      refine wq_lload_n q160_69 rfl ?_
      refine cS' (As := [_, _]) q160_70 m_167 rfl rfl rfl (c_partsOf ?_)
      refine rI q160_73 rfl ?_
      exact hQ
    · rw [nI_leI (by omega) (by omega)] at c24
      omega
  | succ m ih =>
    intro T x y7 hm hQ
    rw [blR] at hQ
    refine wq_iload q160_18 rfl ?_
    refine wq_aload_n q160_20 rfl ?_
    refine cV (As := []) q160_21 m_162 rfl rfl rfl ⟨by decide, rfl⟩ rfl (c_allT hf hev hc4 ?_)
    refine wq_icmp_ge q160_24 (fun c24 => ?_) (fun c24 => ?_)
    · rw [nI_leI (by omega) (by omega)] at c24
      omega
    · refine wq_aload_n q160_27 rfl ?_
      refine wq_iload q160_28 rfl ?_
      refine cV (As := [_]) q160_30 m_166 rfl rfl rfl ⟨by decide, rfl⟩ rfl (c_likelihood hf hn hc hev hc4 ?_)
      refine wq_lstore (ls' := [_, _, _, _, _, _, _, _, _]) q160_33 rfl ?_
      refine wq_lload_n q160_35 rfl ?_
      refine wq_lload q160_36 rfl ?_
      refine wq_ladd q160_38 ?_
      refine wq_lstore_n (ls' := [_, _, _, _, _, _, _, _, _]) q160_39 rfl ?_
      refine wq_lload q160_40 rfl ?_
      refine wq_iload q160_42 rfl ?_
      refine wq_iload_n q160_44 rfl ?_
      refine wq_ishr q160_45 ?_
      refine wq_iconst q160_46 ?_
      refine wq_iand q160_47 ?_
      refine wq_iconst q160_48 ?_
      refine wq_icmp_ne q160_49 (fun c49 => ?_) (fun c49 => ?_)
      · rw [if_neg c49] at hQ
        refine wq_lconst q160_57 ?_
        refine wq_ladd q160_58 ?_
        refine wq_lstore (ls' := [_, _, _, _, _, _, _, _, _]) q160_59 rfl ?_
        refine wq_iinc (ls' := [_, _, _, _, _, _, _, _, _]) q160_61 rfl rfl ?_
        refine wq_goto q160_64 ?_
        rw [nI_1]
        exact ih (T + 1) (x.1 + lkV hi f n ev T, x.2 + 0) _ (by omega) hQ
      · rw [if_pos c49] at hQ
        refine wq_lload q160_52 rfl ?_
        refine wq_goto q160_54 ?_
        refine wq_ladd q160_58 ?_
        refine wq_lstore (ls' := [_, _, _, _, _, _, _, _, _]) q160_59 rfl ?_
        refine wq_iinc (ls' := [_, _, _, _, _, _, _, _, _]) q160_61 rfl rfl ?_
        refine wq_goto q160_64 ?_
        rw [nI_1]
        exact ih (T + 1) (x.1 + lkV hi f n ev T, x.2 + lkV hi f n ev T) _ (by omega) hQ
theorem c_belief {ev : Nat} {x : Int32} (hf : Fok f) (hn : n ≤ 7) (hc : hi f 3 = nI n) (hev : ev ≤ 6) (hc4 : hi f 4 = nI ev) (hQ : Q (some (.int (if inB x (hi f 4) = true then poV (blR (lkV hi f n ev) x (2 ^ ev) 0 (0, 0)).2 (blR (lkV hi f n ev) x (2 ^ ev) 0 (0, 0)).1 else -1))) (HP hi hl f dr t)) : Ct G (0, 0) (d + 2) 160 [.ref 0, .int x] (HP hi hl f dr t) Q := by
  refine Ct_of (ls := [_, _, _, _, _, _, _, _, _]) m_160.1.2.2.1 (Nat.le_of_ble_eq_true rfl) rfl ?_
  refine wq_aload_n q160_0 rfl ?_
  refine wq_iload_n q160_1 rfl ?_
  refine cV (As := [_]) q160_2 m_105 rfl rfl rfl ⟨by decide, rfl⟩ rfl (c_isEvent hf ?_)
  refine wq_if_ne q160_5 (fun c5 => ?_) (fun c5 => ?_)
  · have c := i10 c5
    rw [if_pos c] at hQ
    refine wq_lconst q160_10 ?_
    refine wq_lstore_n (ls' := [_, _, _, _, _, _, _, _, _]) q160_11 rfl ?_
    refine wq_lconst q160_12 ?_
    refine wq_lstore (ls' := [_, _, _, _, _, _, _, _, _]) q160_13 rfl ?_
    refine wq_iconst q160_15 ?_
    refine wq_istore (ls' := [_, _, _, _, _, _, _, _, _]) q160_16 rfl ?_
    exact c_belief_loop hf hn hc hev hc4 (2 ^ ev) 0 (0, 0) _ (by omega) hQ
  · have c := i01 c5
    rw [if_neg (by rw [c]; decide)] at hQ
    refine wq_iconst q160_8 ?_
    refine rI q160_9 rfl ?_
    exact hQ
/-- the first of the least -/
def quR (kn : Nat → Int32) : Nat → Nat → Nat → Nat
  | 0, _, j => j
  | m + 1, e, j => quR kn m (e + 1) (if kn e < kn j then e else j)
def oI : Option Nat → Int32
  | none => -1
  | some j => nI j
theorem nI_nm1 {j : Nat} (h : j < 2 ^ 31) : ¬ nI j = -1 := fun z => by
  have := nI_pos h
  rw [z] at this
  exact this (by decide)
theorem c_quiet_loop {ev : Nat} (hf : Fok f) (hev : ev ≤ 6) (hc4 : hi f 4 = nI ev) : ∀ (m e j : Nat), e + m = ev → j < 6 → Q (some (.int (nI (quR (fun e => hi (f + 3) (e * 2)) m e j)))) (HP hi hl f dr t) →
    wq G (0, 0) (d + 1) 151 4 [some (.ref 0), some (.int (nI j)), some (.int (nI e))] [] (0, 0) (HP hi hl f dr t) Q := by
  obtain ⟨f1, -⟩ := hf.frt hi hl f dr t
  have hF := hf.frt hi hl f dr t
  have ec : hI (HP hi hl f dr t) f 4 = nI ev := hc4
  intro m
  induction m with
  | zero =>
    intro e j hm hj hQ
    refine wq_iload_n q151_4 rfl ?_
    refine wq_aload_n q151_5 rfl ?_
    refine wq_getR q151_6 (by first | exact f1 | rfl) rfl (by first | exact f1 | rfl) ?_
    refine wq_getI q151_9 (by first | exact f1 | rfl) rfl ?_
    refine wq_icmp_ge q151_12 (fun c12 => ?_) (fun c12 => ?_)
    · refine wq_iload_n q151_47 rfl ?_
      refine rI q151_48 rfl ?_
      exact hQ
    · rw [ec, nI_leI (by omega) (by omega)] at c12
      omega
  | succ m ih =>
    intro e j hm hj hQ
    rw [quR] at hQ
    refine wq_iload_n q151_4 rfl ?_
    refine wq_aload_n q151_5 rfl ?_
    refine wq_getR q151_6 (by first | exact f1 | rfl) rfl (by first | exact f1 | rfl) ?_
    refine wq_getI q151_9 (by first | exact f1 | rfl) rfl ?_
    refine wq_icmp_ge q151_12 (fun c12 => ?_) (fun c12 => ?_)
    · rw [ec, nI_leI (by omega) (by omega)] at c12
      omega
    · refine wq_iload_n q151_15 rfl ?_
      refine wq_iconst q151_16 ?_
      refine wq_icmp_eq q151_17 (fun c17 => ?_) (fun c17 => ?_)
      · exact absurd c17 (nI_nm1 (by omega))
      · refine wq_aload_n q151_20 rfl ?_
        refine wq_getR q151_21 (by first | exact f1 | rfl) rfl (by first | exact f1 | rfl) ?_
        refine wq_iload_n q151_24 rfl ?_
        refine cV (As := [_]) q151_25 m_25 rfl rfl (by first | exact f1 | rfl) ⟨by decide, rfl⟩ rfl (c_knocks hF (by omega) ?_)
        refine wq_aload_n q151_28 rfl ?_
        refine wq_getR q151_29 (by first | exact f1 | rfl) rfl (by first | exact f1 | rfl) ?_
        refine wq_iload_n q151_32 rfl ?_
        refine cV (As := [_]) q151_33 m_25 rfl rfl (by first | exact f1 | rfl) ⟨by decide, rfl⟩ rfl (c_knocks hF (by omega) ?_)
        refine wq_icmp_ge q151_36 (fun c36 => ?_) (fun c36 => ?_)
        · rw [if_neg (show ¬ hi (f + 3) (e * 2) < hi (f + 3) (j * 2) from Int32.not_lt.mpr c36)] at hQ
          refine wq_iinc (ls' := [_, _, _]) q151_41 rfl rfl ?_
          refine wq_goto q151_44 ?_
          rw [nI_1]
          exact ih (e + 1) j (by omega) hj hQ
        · rw [if_pos (show hi (f + 3) (e * 2) < hi (f + 3) (j * 2) from Int32.not_le.mp c36)] at hQ
          refine wq_iload_n q151_39 rfl ?_
          refine wq_istore_n (ls' := [_, _, _]) q151_40 rfl ?_
          refine wq_iinc (ls' := [_, _, _]) q151_41 rfl rfl ?_
          refine wq_goto q151_44 ?_
          rw [nI_1]
          exact ih (e + 1) e (by omega) (by omega) hQ
theorem c_quiet {ev : Nat} (hf : Fok f) (hev : ev ≤ 6) (hc4 : hi f 4 = nI ev) (h0 : ev = 0 → Q (some (.int (-1))) (HP hi hl f dr t)) (h1 : 0 < ev → Q (some (.int (nI (quR (fun e => hi (f + 3) (e * 2)) (ev - 1) 1 0)))) (HP hi hl f dr t)) : Ct G (0, 0) (d + 1) 151 [.ref 0] (HP hi hl f dr t) Q := by
  obtain ⟨f1, -⟩ := hf.frt hi hl f dr t
  have ec : hI (HP hi hl f dr t) f 4 = nI ev := hc4
  refine Ct_of (ls := [_, _, _]) m_151.1.2.2.1 (Nat.le_of_ble_eq_true rfl) rfl ?_
  refine wq_iconst q151_0 ?_
  refine wq_istore_n (ls' := [_, _, _]) q151_1 rfl ?_
  refine wq_iconst q151_2 ?_
  refine wq_istore_n (ls' := [_, _, _]) q151_3 rfl ?_
  refine wq_iload_n q151_4 rfl ?_
  refine wq_aload_n q151_5 rfl ?_
  refine wq_getR q151_6 (by first | exact f1 | rfl) rfl (by first | exact f1 | rfl) ?_
  refine wq_getI q151_9 (by first | exact f1 | rfl) rfl ?_
  refine wq_icmp_ge q151_12 (fun c12 => ?_) (fun c12 => ?_)
  · rw [ec, show (0 : Int32) = nI 0 from rfl, nI_leI (by omega) (by omega)] at c12
    refine wq_iload_n q151_47 rfl ?_
    refine rI q151_48 rfl ?_
    exact h0 (by omega)
  · rw [ec, show (0 : Int32) = nI 0 from rfl, nI_leI (by omega) (by omega)] at c12
    refine wq_iload_n q151_15 rfl ?_
    refine wq_iconst q151_16 ?_
    refine wq_icmp_eq q151_17 (fun c17 => ?_) (fun c17 => ?_)
    · refine wq_iload_n q151_39 rfl ?_
      refine wq_istore_n (ls' := [_, _, _]) q151_40 rfl ?_
      refine wq_iinc (ls' := [_, _, _]) q151_41 rfl rfl ?_
      refine wq_goto q151_44 ?_
      exact c_quiet_loop hf hev hc4 (ev - 1) 1 0 (by omega) (by omega) (h1 (by omega))
    · exact absurd rfl c17
theorem c_rich (hf : Fok f) (hn : n ≤ 7) (hc : hi f 3 = nI n) (hQ : Q (some (.int (if 0 < hi f 3 then nI (riR (fun i => hi 39 (7 + i)) (n - 1) 1 0) else -1))) (HP hi hl f dr t)) : Ct G (0, 0) (d + 1) 152 [.ref 0] (HP hi hl f dr t) Q := by
  obtain ⟨f1, -⟩ := hf.frt hi hl f dr t
  have hs : Sok 38 39 := Or.inl ⟨rfl, rfl⟩
  have ec : hI (HP hi hl f dr t) f 3 = nI n := hc
  refine Ct_of (ls := [_]) m_152.1.2.2.1 (Nat.le_of_ble_eq_true rfl) rfl ?_
  refine wq_aload_n q152_0 rfl ?_
  refine cV (As := []) q152_1 m_102 rfl rfl rfl ⟨by decide, rfl⟩ rfl (c_hasFort hf ?_)
  refine wq_if_eq q152_4 (fun c4 => ?_) (fun c4 => ?_)
  · have c := p01 c4
    rw [if_neg c] at hQ
    refine wq_iconst q152_24 ?_
    refine rI q152_25 rfl ?_
    exact hQ
  · have c := p10 c4
    rw [if_pos c] at hQ
    refine wq_aload_n q152_7 rfl ?_
    refine wq_getR q152_8 (by first | exact f1 | rfl) rfl (by first | exact f1 | rfl) ?_
    refine wq_aload_n q152_11 rfl ?_
    refine wq_getR q152_12 (by first | exact f1 | rfl) rfl (by first | exact f1 | rfl) ?_
    refine wq_getI q152_15 (by first | exact f1 | rfl) rfl ?_
    rw [ec]
    refine cV (As := [_]) q152_18 m_59 rfl rfl rfl ⟨by decide, rfl⟩ rfl (c_richest (hs.scn _ _ _ _ _) hn ?_)
    refine wq_goto q152_21 ?_
    refine rI q152_25 rfl ?_
    exact hQ
theorem c_most_loop (hf : Fok f) (hn : n ≤ 7) (hc : hi f 3 = nI n) : ∀ (m p : Nat) (x : Int32 × Int32) (x4 : Option Value), p + m = n → Q (some (.int (bsR (fun p => bc (hi 39 (21 + p))) m p x).1)) (HP hi hl f dr t) →
    wq G (0, 0) (d + 1) 153 6 [some (.ref 0), some (.int x.1), some (.int x.2), some (.int (nI p)), x4] [] (0, 0) (HP hi hl f dr t) Q := by
  obtain ⟨f1, -⟩ := hf.frt hi hl f dr t
  have ec : hI (HP hi hl f dr t) f 3 = nI n := hc
  intro m
  induction m with
  | zero =>
    intro p x x4 hm hQ
    refine wq_iload_n q153_6 rfl ?_
    refine wq_aload_n q153_7 rfl ?_
    refine wq_getR q153_8 (by first | exact f1 | rfl) rfl (by first | exact f1 | rfl) ?_
    refine wq_getI q153_11 (by first | exact f1 | rfl) rfl ?_
    refine wq_icmp_ge q153_14 (fun c14 => ?_) (fun c14 => ?_)
    · refine wq_iload_n q153_51 rfl ?_
      refine rI q153_52 rfl ?_
      exact hQ
    · rw [ec, nI_leI (by omega) (by omega)] at c14
      omega
  | succ m ih =>
    intro p x x4 hm hQ
    rw [bsR] at hQ
    refine wq_iload_n q153_6 rfl ?_
    refine wq_aload_n q153_7 rfl ?_
    refine wq_getR q153_8 (by first | exact f1 | rfl) rfl (by first | exact f1 | rfl) ?_
    refine wq_getI q153_11 (by first | exact f1 | rfl) rfl ?_
    refine wq_icmp_ge q153_14 (fun c14 => ?_) (fun c14 => ?_)
    · rw [ec, nI_leI (by omega) (by omega)] at c14
      omega
    · refine wq_aload_n q153_17 rfl ?_
      refine wq_getR q153_18 rfl rfl rfl ?_
      refine wq_getR q153_21 rfl rfl rfl ?_
      refine wq_bipush q153_24 ?_
      refine wq_iload_n q153_26 rfl ?_
      refine wq_iadd q153_27 ?_
      refine aI q153_28 rfl (nI_add 21 _) (by show 21 + p < 33; omega) (by first | decide | omega) ?_
      refine cS' (As := [_]) q153_29 m_295 rfl rfl rfl (c_bitCount ?_)
      refine wq_istore (ls' := [_, _, _, _, _]) q153_32 rfl ?_
      refine wq_iload q153_34 rfl ?_
      refine wq_iload_n q153_36 rfl ?_
      refine wq_icmp_le q153_37 (fun c37 => ?_) (fun c37 => ?_)
      · rw [if_neg (show ¬ x.2 < bc (hi 39 (21 + p)) from Int32.not_lt.mpr c37)] at hQ
        refine wq_iinc (ls' := [_, _, _, _, _]) q153_45 rfl rfl ?_
        refine wq_goto q153_48 ?_
        rw [nI_1]
        exact ih (p + 1) x _ (by omega) hQ
      · rw [if_pos (show x.2 < bc (hi 39 (21 + p)) from Int32.not_le.mp c37)] at hQ
        refine wq_iload_n q153_40 rfl ?_
        refine wq_istore_n (ls' := [_, _, _, _, _]) q153_41 rfl ?_
        refine wq_iload q153_42 rfl ?_
        refine wq_istore_n (ls' := [_, _, _, _, _]) q153_44 rfl ?_
        refine wq_iinc (ls' := [_, _, _, _, _]) q153_45 rfl rfl ?_
        refine wq_goto q153_48 ?_
        rw [nI_1]
        exact ih (p + 1) (nI p, bc (hi 39 (21 + p))) _ (by omega) hQ
theorem c_most (hf : Fok f) (hn : n ≤ 7) (hc : hi f 3 = nI n) (hQ : Q (some (.int (bsR (fun p => bc (hi 39 (21 + p))) n 0 (-1, -1)).1)) (HP hi hl f dr t)) : Ct G (0, 0) (d + 1) 153 [.ref 0] (HP hi hl f dr t) Q := by
  refine Ct_of (ls := [_, _, _, _, _]) m_153.1.2.2.1 (Nat.le_of_ble_eq_true rfl) rfl ?_
  refine wq_iconst q153_0 ?_
  refine wq_istore_n (ls' := [_, _, _, _, _]) q153_1 rfl ?_
  refine wq_iconst q153_2 ?_
  refine wq_istore_n (ls' := [_, _, _, _, _]) q153_3 rfl ?_
  refine wq_iconst q153_4 ?_
  refine wq_istore_n (ls' := [_, _, _, _, _]) q153_5 rfl ?_
  exact c_most_loop hf hn hc n 0 (-1, -1) _ (by omega) hQ
/-- the first of the most among those who aren't named -/
def meI (mr : Nat → Int32) (nm : Int32) : Nat → Nat → Option Nat → Option Nat
  | 0, _, o => o
  | m + 1, p, o => meI mr nm m (p + 1) (if (nm >>> (nI p &&& 31)) &&& 1 = 0 ∧ (∀ j, o = some j → mr j < mr p) then some p else o)
def meR (mr : Nat → Int32) (n : Nat) : Nat → Int32 × Int32 → Int32
  | 0, x => x.1
  | m + 1, x => meR mr n m (10 * x.1 + oI (meI mr x.2 n 0 none), x.2 ||| (1 <<< (oI (meI mr x.2 n 0 none) &&& 31)))
theorem c_merits_in {dg nm : Int32} {pl : Nat} (hf : Fok f) (hn : n ≤ 7) (hc : hi f 3 = nI n) : ∀ (m p : Nat) (o : Option Nat) (x6 : Option Value), p + m = n → (∀ j, o = some j → j < 7) → (∀ x5 x6, wq G (0, 0) (d + 1) 150 102 [some (.ref 0), some (.int dg), some (.int nm), some (.int (nI pl)), some (.int (oI (meI (fun p => hi (f + 2) (p * 5 + 1)) nm m p o))), x5, x6] [] (0, 0) (HP hi hl f dr t) Q) →
    wq G (0, 0) (d + 1) 150 32 [some (.ref 0), some (.int dg), some (.int nm), some (.int (nI pl)), some (.int (oI o)), some (.int (nI p)), x6] [] (0, 0) (HP hi hl f dr t) Q := by
  obtain ⟨f1, -⟩ := hf.frt hi hl f dr t
  have hF := hf.frt hi hl f dr t
  have ec : hI (HP hi hl f dr t) f 3 = nI n := hc
  intro m
  induction m with
  | zero =>
    intro p o x6 hm ho hQ
    refine wq_iload q150_32 rfl ?_
    refine wq_aload_n q150_34 rfl ?_
    refine wq_getR q150_35 (by first | exact f1 | rfl) rfl (by first | exact f1 | rfl) ?_
    refine wq_getI q150_38 (by first | exact f1 | rfl) rfl ?_
    refine wq_icmp_ge q150_41 (fun c41 => ?_) (fun c41 => ?_)
    · exact hQ _ _
    · rw [ec, nI_leI (by omega) (by omega)] at c41
      omega
  | succ m ih =>
    intro p o x6 hm ho hQ
    rw [meI] at hQ
    refine wq_iload q150_32 rfl ?_
    refine wq_aload_n q150_34 rfl ?_
    refine wq_getR q150_35 (by first | exact f1 | rfl) rfl (by first | exact f1 | rfl) ?_
    refine wq_getI q150_38 (by first | exact f1 | rfl) rfl ?_
    refine wq_icmp_ge q150_41 (fun c41 => ?_) (fun c41 => ?_)
    · rw [ec, nI_leI (by omega) (by omega)] at c41
      omega
    · refine wq_iload_n q150_44 rfl ?_
      refine wq_iload q150_45 rfl ?_
      refine wq_ishr q150_47 ?_
      refine wq_iconst q150_48 ?_
      refine wq_iand q150_49 ?_
      refine wq_if_ne q150_50 (fun c50 => ?_) (fun c50 => ?_)
      · rw [if_neg (fun z => c50 z.1)] at hQ
        refine wq_iconst q150_57 ?_
        refine wq_istore (ls' := [_, _, _, _, _, _, _]) q150_58 rfl ?_
        refine wq_iload q150_60 rfl ?_
        refine wq_if_eq q150_62 (fun c62 => ?_) (fun c62 => ?_)
        · refine wq_iinc (ls' := [_, _, _, _, _, _, _]) q150_96 rfl rfl ?_
          refine wq_goto q150_99 ?_
          rw [nI_1]
          exact ih (p + 1) o _ (by omega) ho hQ
        · exact absurd rfl c62
      · refine wq_iconst q150_53 ?_
        refine wq_goto q150_54 ?_
        refine wq_istore (ls' := [_, _, _, _, _, _, _]) q150_58 rfl ?_
        refine wq_iload q150_60 rfl ?_
        refine wq_if_eq q150_62 (fun c62 => ?_) (fun c62 => ?_)
        · exact absurd c62 (by decide)
        · cases o with
          | none =>
            rw [if_pos ⟨c50, fun j hj => by cases hj⟩] at hQ
            refine wq_iload q150_65 rfl ?_
            refine wq_iconst q150_67 ?_
            refine wq_icmp_eq q150_68 (fun c68 => ?_) (fun c68 => ?_)
            · refine wq_iload q150_92 rfl ?_
              refine wq_istore (ls' := [_, _, _, _, _, _, _]) q150_94 rfl ?_
              refine wq_iinc (ls' := [_, _, _, _, _, _, _]) q150_96 rfl rfl ?_
              refine wq_goto q150_99 ?_
              rw [nI_1]
              exact ih (p + 1) (some p) _ (by omega) (fun j hj => by cases hj; omega) hQ
            · exact absurd rfl c68
          | some j =>
            have hj := ho j rfl
            refine wq_iload q150_65 rfl ?_
            refine wq_iconst q150_67 ?_
            refine wq_icmp_eq q150_68 (fun c68 => ?_) (fun c68 => ?_)
            · exact absurd c68 (nI_nm1 (by omega))
            · rw [show oI (some j) = nI j from rfl]
              refine wq_aload_n q150_71 rfl ?_
              refine wq_getR q150_72 (by first | exact f1 | rfl) rfl (by first | exact f1 | rfl) ?_
              refine wq_iload q150_75 rfl ?_
              refine cV (As := [_]) q150_77 m_21 rfl rfl (by first | exact f1 | rfl) ⟨by decide, rfl⟩ rfl (c_merit hF (by omega) ?_)
              refine wq_aload_n q150_80 rfl ?_
              refine wq_getR q150_81 (by first | exact f1 | rfl) rfl (by first | exact f1 | rfl) ?_
              refine wq_iload q150_84 rfl ?_
              refine cV (As := [_]) q150_86 m_21 rfl rfl (by first | exact f1 | rfl) ⟨by decide, rfl⟩ rfl (c_merit hF hj ?_)
              refine wq_icmp_le q150_89 (fun c89 => ?_) (fun c89 => ?_)
              · rw [if_neg (fun z => absurd (z.2 j rfl) (Int32.not_lt.mpr c89))] at hQ
                refine wq_iinc (ls' := [_, _, _, _, _, _, _]) q150_96 rfl rfl ?_
                refine wq_goto q150_99 ?_
                rw [nI_1]
                exact ih (p + 1) (some j) _ (by omega) ho hQ
              · rw [if_pos ⟨c50, fun j' hj' => by cases hj'; exact Int32.not_le.mp c89⟩] at hQ
                refine wq_iload q150_92 rfl ?_
                refine wq_istore (ls' := [_, _, _, _, _, _, _]) q150_94 rfl ?_
                refine wq_iinc (ls' := [_, _, _, _, _, _, _]) q150_96 rfl rfl ?_
                refine wq_goto q150_99 ?_
                rw [nI_1]
                exact ih (p + 1) (some p) _ (by omega) (fun j hj => by cases hj; omega) hQ
theorem c_merits_out (hf : Fok f) (hn : n ≤ 7) (hc : hi f 3 = nI n) : ∀ (m k : Nat) (x : Int32 × Int32) (x4 x5 x6 : Option Value), k + m = n → Q (some (.int (meR (fun p => hi (f + 2) (p * 5 + 1)) n m x))) (HP hi hl f dr t) →
    wq G (0, 0) (d + 1) 150 15 [some (.ref 0), some (.int x.1), some (.int x.2), some (.int (nI k)), x4, x5, x6] [] (0, 0) (HP hi hl f dr t) Q := by
  obtain ⟨f1, -⟩ := hf.frt hi hl f dr t
  have ec : hI (HP hi hl f dr t) f 3 = nI n := hc
  intro m
  induction m with
  | zero =>
    intro k x x4 x5 x6 hm hQ
    refine wq_iload_n q150_15 rfl ?_
    refine wq_aload_n q150_16 rfl ?_
    refine wq_getR q150_17 (by first | exact f1 | rfl) rfl (by first | exact f1 | rfl) ?_
    refine wq_getI q150_20 (by first | exact f1 | rfl) rfl ?_
    refine wq_icmp_ge q150_23 (fun c23 => ?_) (fun c23 => ?_)
    · refine wq_iload_n q150_123 rfl ?_
      refine rI q150_124 rfl ?_
      exact hQ
    · rw [ec, nI_leI (by omega) (by omega)] at c23
      omega
  | succ m ih =>
    intro k x x4 x5 x6 hm hQ
    refine wq_iload_n q150_15 rfl ?_
    refine wq_aload_n q150_16 rfl ?_
    refine wq_getR q150_17 (by first | exact f1 | rfl) rfl (by first | exact f1 | rfl) ?_
    refine wq_getI q150_20 (by first | exact f1 | rfl) rfl ?_
    refine wq_icmp_ge q150_23 (fun c23 => ?_) (fun c23 => ?_)
    · rw [ec, nI_leI (by omega) (by omega)] at c23
      omega
    · refine wq_iconst q150_26 ?_
      refine wq_istore (ls' := [_, _, _, _, _, _, _]) q150_27 rfl ?_
      refine wq_iconst q150_29 ?_
      refine wq_istore (ls' := [_, _, _, _, _, _, _]) q150_30 rfl ?_
      refine c_merits_in hf hn hc n 0 none _ (by omega) (fun j hj => by cases hj) (fun y5 y6 => ?_)
      refine wq_bipush q150_102 ?_
      refine wq_iload_n q150_104 rfl ?_
      refine wq_imul q150_105 ?_
      refine wq_iload q150_106 rfl ?_
      refine wq_iadd q150_108 ?_
      refine wq_istore_n (ls' := [_, _, _, _, _, _, _]) q150_109 rfl ?_
      refine wq_iload_n q150_110 rfl ?_
      refine wq_iconst q150_111 ?_
      refine wq_iload q150_112 rfl ?_
      refine wq_ishl q150_114 ?_
      refine wq_ior q150_115 ?_
      refine wq_istore_n (ls' := [_, _, _, _, _, _, _]) q150_116 rfl ?_
      refine wq_iinc (ls' := [_, _, _, _, _, _, _]) q150_117 rfl rfl ?_
      refine wq_goto q150_120 ?_
      rw [nI_1]
      exact ih (k + 1) (10 * x.1 + oI (meI (fun p => hi (f + 2) (p * 5 + 1)) x.2 n 0 none), x.2 ||| (1 <<< (oI (meI (fun p => hi (f + 2) (p * 5 + 1)) x.2 n 0 none) &&& 31))) _ _ _ (by omega) hQ
theorem c_merits (hf : Fok f) (hn : n ≤ 7) (hc : hi f 3 = nI n) (hQ : Q (some (.int (if 0 < hi f 3 then meR (fun p => hi (f + 2) (p * 5 + 1)) n n (0, 0) else -1))) (HP hi hl f dr t)) : Ct G (0, 0) (d + 1) 150 [.ref 0] (HP hi hl f dr t) Q := by
  refine Ct_of (ls := [_, _, _, _, _, _, _]) m_150.1.2.2.1 (Nat.le_of_ble_eq_true rfl) rfl ?_
  refine wq_aload_n q150_0 rfl ?_
  refine cV (As := []) q150_1 m_102 rfl rfl rfl ⟨by decide, rfl⟩ rfl (c_hasFort hf ?_)
  refine wq_if_ne q150_4 (fun c4 => ?_) (fun c4 => ?_)
  · have c := p10 c4
    rw [if_pos c] at hQ
    refine wq_iconst q150_9 ?_
    refine wq_istore_n (ls' := [_, _, _, _, _, _, _]) q150_10 rfl ?_
    refine wq_iconst q150_11 ?_
    refine wq_istore_n (ls' := [_, _, _, _, _, _, _]) q150_12 rfl ?_
    refine wq_iconst q150_13 ?_
    refine wq_istore_n (ls' := [_, _, _, _, _, _, _]) q150_14 rfl ?_
    exact c_merits_out hf hn hc n 0 (0, 0) _ _ _ (by omega) hQ
  · have c := p01 c4
    rw [if_neg c] at hQ
    refine wq_iconst q150_7 ?_
    refine rI q150_8 rfl ?_
    exact hQ
def cnV (hi : Nat → Nat → Int32) (f n wi dy : Nat) (w : Int32) : Int32 :=
  if w = 0 then hi f 3 else if w = 1 then hi f 4 else if w = 2 then hi 0 4 else if w = 3 then hi 0 7 else if w = 4 then hi 1 1 else if w = 5 then hi 0 5 else if w = 6 then hi 39 32
  else if w = 7 then (if 0 < hi f 3 then hi 39 wi else -1) else if w = 8 then hi 39 28 else if w = 9 then hi 39 30 else if w = 10 then hi 39 31 else if w = 11 then suR (fun i => hi 39 (7 + i)) n 0 0
  else if w = 12 then hi 0 8 else if w = 13 then hi 54 2 else if w = 14 then nI (min dy 60) else if w = 15 then hi 48 2 else -1000000
theorem c_count {wi dy : Nat} {w : Int32} (hf : Fok f) (hn : n ≤ 7) (hc : hi f 3 = nI n) (hwi : wi < 7) (hc0 : hi (f + 1) 0 = nI wi) (h32 : hi 39 32 = nI dy) (hdy : dy ≤ 9999) (hQ : Q (some (.int (cnV hi f n wi dy w))) (HP hi hl f dr t)) : Ct G (0, 0) (d + 2) 101 [.ref 0, .int w] (HP hi hl f dr t) Q := by
  obtain ⟨f1, -⟩ := hf.frt hi hl f dr t
  have hs : Sok 38 39 := Or.inl ⟨rfl, rfl⟩
  have ec : hI (HP hi hl f dr t) f 3 = nI n := hc
  refine Ct_of (ls := [_, _]) m_101.1.2.2.1 (Nat.le_of_ble_eq_true rfl) rfl ?_
  refine wq_iload_n q101_0 rfl ?_
  refine wq_switch q101_1 [80, 88, 96, 101, 106, 114, 119, 130, 146, 157, 168, 179, 194, 199, 207, 212] (by decide) (fun c1 => ?_) (fun i t ht c1 => ?_)
  · refine wq_ldc q101_220 ?_
    refine rI q101_222 rfl ?_
    have g : ∀ v : Int32, 0 ≤ v.toInt → v.toInt ≤ 15 → ¬ w = v := fun v h1 h2 z => by subst z; omega
    have e : cnV hi f n wi dy w = -1000000 := by
      unfold cnV
      rw [if_neg (g _ (by decide) (by decide)), if_neg (g _ (by decide) (by decide)), if_neg (g _ (by decide) (by decide)), if_neg (g _ (by decide) (by decide)), if_neg (g _ (by decide) (by decide)), if_neg (g _ (by decide) (by decide)), if_neg (g _ (by decide) (by decide)), if_neg (g _ (by decide) (by decide)), if_neg (g _ (by decide) (by decide)), if_neg (g _ (by decide) (by decide)), if_neg (g _ (by decide) (by decide)), if_neg (g _ (by decide) (by decide)), if_neg (g _ (by decide) (by decide)), if_neg (g _ (by decide) (by decide)), if_neg (g _ (by decide) (by decide)), if_neg (g _ (by decide) (by decide))]
    rw [e] at hQ
    exact hQ
  · match i, ht, c1 with
    | 0, ht, c1 =>
      cases ht
      obtain rfl : w = (0 : Int32) := Int32.toInt_inj.mp (by rw [c1]; rfl)
      refine wq_aload_n q101_80 rfl ?_
      refine wq_getR q101_81 (by first | exact f1 | rfl) rfl (by first | exact f1 | rfl) ?_
      refine wq_getI q101_84 (by first | exact f1 | rfl) rfl ?_
      refine rI q101_87 rfl ?_
      exact hQ
    | 1, ht, c1 =>
      cases ht
      obtain rfl : w = (1 : Int32) := Int32.toInt_inj.mp (by rw [c1]; rfl)
      refine wq_aload_n q101_88 rfl ?_
      refine wq_getR q101_89 (by first | exact f1 | rfl) rfl (by first | exact f1 | rfl) ?_
      refine wq_getI q101_92 (by first | exact f1 | rfl) rfl ?_
      refine rI q101_95 rfl ?_
      exact hQ
    | 2, ht, c1 =>
      cases ht
      obtain rfl : w = (2 : Int32) := Int32.toInt_inj.mp (by rw [c1]; rfl)
      refine wq_aload_n q101_96 rfl ?_
      refine wq_getI q101_97 rfl rfl ?_
      refine rI q101_100 rfl ?_
      exact hQ
    | 3, ht, c1 =>
      cases ht
      obtain rfl : w = (3 : Int32) := Int32.toInt_inj.mp (by rw [c1]; rfl)
      refine wq_aload_n q101_101 rfl ?_
      refine wq_getI q101_102 rfl rfl ?_
      refine rI q101_105 rfl ?_
      exact hQ
    | 4, ht, c1 =>
      cases ht
      obtain rfl : w = (4 : Int32) := Int32.toInt_inj.mp (by rw [c1]; rfl)
      refine wq_aload_n q101_106 rfl ?_
      refine wq_getR q101_107 rfl rfl rfl ?_
      refine wq_getI q101_110 rfl rfl ?_
      refine rI q101_113 rfl ?_
      exact hQ
    | 5, ht, c1 =>
      cases ht
      obtain rfl : w = (5 : Int32) := Int32.toInt_inj.mp (by rw [c1]; rfl)
      refine wq_aload_n q101_114 rfl ?_
      refine wq_getI q101_115 rfl rfl ?_
      refine rI q101_118 rfl ?_
      exact hQ
    | 6, ht, c1 =>
      cases ht
      obtain rfl : w = (6 : Int32) := Int32.toInt_inj.mp (by rw [c1]; rfl)
      refine wq_aload_n q101_119 rfl ?_
      refine wq_getR q101_120 rfl rfl rfl ?_
      refine wq_getR q101_123 rfl rfl rfl ?_
      refine wq_bipush q101_126 ?_
      refine aI q101_128 rfl (rfl) (by decide) (by first | decide | omega) ?_
      refine rI q101_129 rfl ?_
      exact hQ
    | 7, ht, c1 =>
      cases ht
      obtain rfl : w = (7 : Int32) := Int32.toInt_inj.mp (by rw [c1]; rfl)
      have e : cnV hi f n wi dy 7 = if 0 < hi f 3 then hi 39 wi else -1 := rfl
      rw [e] at hQ
      refine wq_aload_n q101_130 rfl ?_
      refine cV (As := []) q101_131 m_102 rfl rfl rfl ⟨by decide, rfl⟩ rfl (c_hasFort hf ?_)
      refine wq_if_eq q101_134 (fun c134 => ?_) (fun c134 => ?_)
      · have c := p01 c134
        rw [if_neg c] at hQ
        refine wq_iconst q101_144 ?_
        refine rI q101_145 rfl ?_
        exact hQ
      · have c := p10 c134
        rw [if_pos c] at hQ
        refine wq_aload_n q101_137 rfl ?_
        refine cV (As := []) q101_138 m_106 rfl rfl rfl ⟨by decide, rfl⟩ rfl (c_teller hf hwi hc0 ?_)
        refine wq_goto q101_141 ?_
        refine rI q101_145 rfl ?_
        exact hQ
    | 8, ht, c1 =>
      cases ht
      obtain rfl : w = (8 : Int32) := Int32.toInt_inj.mp (by rw [c1]; rfl)
      refine wq_aload_n q101_146 rfl ?_
      refine wq_getR q101_147 rfl rfl rfl ?_
      refine wq_getR q101_150 rfl rfl rfl ?_
      refine wq_bipush q101_153 ?_
      refine aI q101_155 rfl (rfl) (by decide) (by first | decide | omega) ?_
      refine rI q101_156 rfl ?_
      exact hQ
    | 9, ht, c1 =>
      cases ht
      obtain rfl : w = (9 : Int32) := Int32.toInt_inj.mp (by rw [c1]; rfl)
      refine wq_aload_n q101_157 rfl ?_
      refine wq_getR q101_158 rfl rfl rfl ?_
      refine wq_getR q101_161 rfl rfl rfl ?_
      refine wq_bipush q101_164 ?_
      refine aI q101_166 rfl (rfl) (by decide) (by first | decide | omega) ?_
      refine rI q101_167 rfl ?_
      exact hQ
    | 10, ht, c1 =>
      cases ht
      obtain rfl : w = (10 : Int32) := Int32.toInt_inj.mp (by rw [c1]; rfl)
      refine wq_aload_n q101_168 rfl ?_
      refine wq_getR q101_169 rfl rfl rfl ?_
      refine wq_getR q101_172 rfl rfl rfl ?_
      refine wq_bipush q101_175 ?_
      refine aI q101_177 rfl (rfl) (by decide) (by first | decide | omega) ?_
      refine rI q101_178 rfl ?_
      exact hQ
    | 11, ht, c1 =>
      cases ht
      obtain rfl : w = (11 : Int32) := Int32.toInt_inj.mp (by rw [c1]; rfl)
      refine wq_aload_n q101_179 rfl ?_
      refine wq_getR q101_180 (by first | exact f1 | rfl) rfl (by first | exact f1 | rfl) ?_
      refine wq_aload_n q101_183 rfl ?_
      refine wq_getR q101_184 (by first | exact f1 | rfl) rfl (by first | exact f1 | rfl) ?_
      refine wq_getI q101_187 (by first | exact f1 | rfl) rfl ?_
      rw [ec]
      refine cV (As := [_]) q101_190 m_60 rfl rfl rfl ⟨by decide, rfl⟩ rfl (c_breadOfAll (hs.scn _ _ _ _ _) hn ?_)
      refine rI q101_193 rfl ?_
      exact hQ
    | 12, ht, c1 =>
      cases ht
      obtain rfl : w = (12 : Int32) := Int32.toInt_inj.mp (by rw [c1]; rfl)
      refine wq_aload_n q101_194 rfl ?_
      refine wq_getI q101_195 rfl rfl ?_
      refine rI q101_198 rfl ?_
      exact hQ
    | 13, ht, c1 =>
      cases ht
      obtain rfl : w = (13 : Int32) := Int32.toInt_inj.mp (by rw [c1]; rfl)
      refine wq_aload_n q101_199 rfl ?_
      refine wq_getR q101_200 rfl rfl rfl ?_
      refine wq_getI q101_203 rfl rfl ?_
      refine rI q101_206 rfl ?_
      exact hQ
    | 14, ht, c1 =>
      cases ht
      obtain rfl : w = (14 : Int32) := Int32.toInt_inj.mp (by rw [c1]; rfl)
      refine wq_aload_n q101_207 rfl ?_
      refine cV (As := []) q101_208 m_107 rfl rfl rfl ⟨by decide, rfl⟩ rfl (c_logged h32 hdy ?_)
      refine rI q101_211 rfl ?_
      exact hQ
    | 15, ht, c1 =>
      cases ht
      obtain rfl : w = (15 : Int32) := Int32.toInt_inj.mp (by rw [c1]; rfl)
      refine wq_aload_n q101_212 rfl ?_
      refine wq_getR q101_213 rfl rfl rfl ?_
      refine wq_getI q101_216 rfl rfl ?_
      refine rI q101_219 rfl ?_
      exact hQ
    | i + 16, ht, _ => simp at ht
end COUNT
