/-! THE REFERENCE: codes -/
def gcL (rec : Int32 → Int32 → Int32 → tlX → tlX) (room sum bf c : Int32) : Nat → Nat → tlX → tlX
  | 0, _, y => y
  | k + 1, l, y => gcL rec room sum bf c k (l + 1) (if (32 : Int32) >>> (nI l &&& 31) ≤ room then rec (room - (32 : Int32) >>> (nI l &&& 31)) (sum + nI l * c) (10 * bf + nI l) y else y)
/-- the reference's search -/
def gcR (ch : Nat → Int32) : Nat → Nat → Int32 → Int32 → Int32 → tlX → tlX
  | 0, _, _, sum, bf, y => if ¬ y.1 = -1 ∧ y.1 ≤ sum then y else (sum, bf)
  | m + 1, e, room, sum, bf, y => gcL (gcR ch m (e + 1)) room sum bf (ch e) 5 1 y
/-- the class's search, with what is asked ahead of it -/
def tlG (ch : Nat → Int32) (m e : Nat) (room sum bf : Int32) (x : tlX) : tlX := if nI m ≤ room ∧ sum < x.1 then tlR ch m e room sum bf x else x
def CRel (x y : tlX) : Prop := (x = (2147483647, 0) ∧ y = (-1, 0)) ∨ (y = x ∧ ∃ k, k ≤ 1000 ∧ x.1 = nI k)
theorem sh32 : ∀ l, l < 6 → 1 ≤ l → (32 : Int32) >>> (nI l &&& 31) = nI (32 / 2 ^ l) ∧ 1 ≤ 32 / 2 ^ l ∧ 32 / 2 ^ l ≤ 16 := by decide
theorem room_le {m R s : Nat} (hm : m < 100) (hR : R ≤ 32) (hs : s ≤ 16) : nI m ≤ nI R - nI s ↔ m + s ≤ R := by
  rw [Int32.le_iff_toInt_le, nI_toInt (by omega), pk_sub_toInt (by omega) (by omega)]
  omega
theorem lt_max {S : Nat} (h : S ≤ 100000) : nI S < 2147483647 := by
  rw [Int32.lt_iff_toInt_lt, nI_toInt (by omega), show (2147483647 : Int32).toInt = 2147483647 from rfl]
  omega
theorem sum_nI {S l C : Nat} : nI S + nI l * nI C = nI (S + l * C) := by rw [pk_mul, nI_add]
/-- where nothing is to be found nothing is done -/
theorem tl_noop {ch : Nat → Int32} {m e R S C : Nat} {bf : Int32} {x : tlX} {rec : Int32 → Int32 → Int32 → tlX → tlX} (hm : m < 10) (hR : R ≤ 32) (hS : S ≤ 1000) (hC : C ≤ 10) (hc : ch e = nI C) (h : ¬ (nI (m + 1) ≤ nI R ∧ nI S < x.1)) : ∀ (k l : Nat), l + k = 6 → 1 ≤ l → tlL rec (nI m) (nI R) (nI S) bf (ch e) k l x = x := by
  intro k
  induction k with
  | zero => intro l _ _; rfl
  | succ k ih =>
    intro l hl h1
    obtain ⟨q1, q2, q3⟩ := sh32 l (by omega) h1
    have hlC : l * C ≤ 5 * 10 := Nat.mul_le_mul (by omega) hC
    rw [tlL, if_neg]
    · exact ih (l + 1) (by omega) (by omega)
    · rw [q1, hc, sum_nI]
      rintro ⟨z1, z2⟩
      rw [room_le (by omega) hR q3] at z1
      refine h ⟨by rw [nI_leI (by omega) (by omega)]; omega, ?_⟩
      rw [Int32.lt_iff_toInt_lt, nI_toInt (by omega)] at z2 ⊢
      omega
theorem code_rel {ch : Nat → Int32} {N : Nat} (hch : ∀ e, e < N → ∃ C, C ≤ 10 ∧ ch e = nI C) : ∀ (m e R S : Nat) (bf : Int32) (x y : tlX), e + m = N → m ≤ 6 → R ≤ 32 → S + 50 * m ≤ 1000 → CRel x y → CRel (tlG ch m e (nI R) (nI S) bf x) (gcR ch m e (nI R) (nI S) bf y) := by
  intro m
  induction m with
  | zero =>
    intro e R S bf x y he hm hR hS hxy
    have h0 : nI 0 ≤ nI R := nI_le (by omega) (by omega)
    unfold tlG
    rw [gcR]
    have yes : CRel (nI S, bf) (nI S, bf) := Or.inr ⟨rfl, S, by omega, rfl⟩
    rcases hxy with ⟨rfl, rfl⟩ | ⟨rfl, k, hk, ek⟩
    · rw [if_pos ⟨h0, lt_max (by omega)⟩, if_neg (fun z => z.1 rfl), tlR]
      exact yes
    · by_cases hlt : nI S < y.1
      · rw [if_pos ⟨h0, hlt⟩, if_neg (fun z => absurd z.2 (Int32.not_le.mpr hlt)), tlR]
        exact yes
      · rw [if_neg (fun z => hlt z.2), if_pos ⟨by rw [ek]; exact nI_nm1 (by omega), Int32.not_lt.mp hlt⟩]
        exact Or.inr ⟨rfl, k, hk, ek⟩
  | succ m ih =>
    intro e R S bf x y he hm hR hS hxy
    obtain ⟨C, hC, hc⟩ := hch e (by omega)
    have step : ∀ (k l : Nat) (x y : tlX), l + k = 6 → 1 ≤ l → CRel x y → CRel (tlL (tlR ch m (e + 1)) (nI m) (nI R) (nI S) bf (ch e) k l x) (gcL (gcR ch m (e + 1)) (nI R) (nI S) bf (ch e) k l y) := by
      intro k
      induction k with
      | zero => intro l x y _ _ h; exact h
      | succ k ihk =>
        intro l x y hl h1 h
        obtain ⟨q1, q2, q3⟩ := sh32 l (by omega) h1
        have hlC : l * C ≤ 5 * 10 := Nat.mul_le_mul (by omega) hC
        rw [tlL, gcL]
        refine ihk (l + 1) _ _ (by omega) (by omega) ?_
        rw [q1, hc, sum_nI]
        by_cases hs : 32 / 2 ^ l ≤ R
        · rw [if_pos (show nI (32 / 2 ^ l) ≤ nI R from nI_le hs (by omega)), pk_sub hs]
          exact ih (e + 1) (R - 32 / 2 ^ l) (S + l * C) (10 * bf + nI l) x y (by omega) (by omega) (by omega) (by omega) h
        · rw [if_neg (show ¬ nI (32 / 2 ^ l) ≤ nI R by rw [nI_leI (by omega) (by omega)]; exact hs), if_neg]
          · exact h
          · rintro ⟨z, -⟩
            rw [room_le (by omega) hR q3] at z
            omega
    have hst := step 5 1 x y (by omega) (by omega) hxy
    rw [gcR]
    unfold tlG
    by_cases hg : nI (m + 1) ≤ nI R ∧ nI S < x.1
    · rw [if_pos hg, tlR]
      exact hst
    · rw [if_neg hg]
      rw [tl_noop (by omega) hR (by omega) hC hc hg 5 1 (by omega) (by omega)] at hst
      exact hst
/-- something is found -/
def NIx (x : tlX) : Prop := ∃ k, k ≤ 1000 ∧ x.1 = nI k
theorem code_keep {ch : Nat → Int32} {N : Nat} (hch : ∀ e, e < N → ∃ C, C ≤ 10 ∧ ch e = nI C) : ∀ (m e R S : Nat) (bf : Int32) (x : tlX), e + m = N → m ≤ 6 → R ≤ 32 → S + 50 * m ≤ 1000 → (NIx x → NIx (tlG ch m e (nI R) (nI S) bf x)) ∧ (m ≤ R → x = (2147483647, 0) → NIx (tlG ch m e (nI R) (nI S) bf x)) := by
  intro m
  induction m with
  | zero =>
    intro e R S bf x he hm hR hS
    have h0 : nI 0 ≤ nI R := nI_le (by omega) (by omega)
    unfold tlG
    refine ⟨fun h => ?_, fun _ h => ?_⟩
    · split
      · exact ⟨S, by omega, rfl⟩
      · exact h
    · subst h
      rw [if_pos ⟨h0, lt_max (by omega)⟩, tlR]
      exact ⟨S, by omega, rfl⟩
  | succ m ih =>
    intro e R S bf x he hm hR hS
    obtain ⟨C, hC, hc⟩ := hch e (by omega)
    have one : ∀ (l : Nat) (x : tlX), l < 6 → 1 ≤ l → (NIx x → NIx (if nI m ≤ nI R - (32 : Int32) >>> (nI l &&& 31) ∧ nI S + nI l * ch e < x.1 then tlR ch m (e + 1) (nI R - (32 : Int32) >>> (nI l &&& 31)) (nI S + nI l * ch e) (10 * bf + nI l) x else x)) ∧ (32 / 2 ^ l + m ≤ R → x = (2147483647, 0) → NIx (if nI m ≤ nI R - (32 : Int32) >>> (nI l &&& 31) ∧ nI S + nI l * ch e < x.1 then tlR ch m (e + 1) (nI R - (32 : Int32) >>> (nI l &&& 31)) (nI S + nI l * ch e) (10 * bf + nI l) x else x)) := by
      intro l x hl h1
      obtain ⟨q1, q2, q3⟩ := sh32 l hl h1
      have hlC : l * C ≤ 5 * 10 := Nat.mul_le_mul (by omega) hC
      rw [q1, hc, sum_nI]
      by_cases hs : 32 / 2 ^ l ≤ R
      · rw [pk_sub hs]
        have h2 := ih (e + 1) (R - 32 / 2 ^ l) (S + l * C) (10 * bf + nI l) x (by omega) (by omega) (by omega) (by omega)
        exact ⟨h2.1, fun h3 h4 => h2.2 (by omega) h4⟩
      · have hno : ¬ (nI m ≤ nI R - nI (32 / 2 ^ l) ∧ nI (S + l * C) < x.1) := by
          rintro ⟨z, -⟩
          rw [room_le (by omega) hR q3] at z
          omega
        rw [if_neg hno]
        exact ⟨fun h => h, fun h3 => by omega⟩
    have keep : ∀ (k l : Nat) (x : tlX), l + k = 6 → 1 ≤ l → NIx x → NIx (tlL (tlR ch m (e + 1)) (nI m) (nI R) (nI S) bf (ch e) k l x) := by
      intro k
      induction k with
      | zero => intro l x _ _ h; exact h
      | succ k ihk =>
        intro l x hl h1 h
        rw [tlL]
        exact ihk (l + 1) _ (by omega) (by omega) ((one l x (by omega) h1).1 h)
    have find : ∀ (k l : Nat) (x : tlX), l + k = 6 → 1 ≤ l → 1 ≤ k → m + 1 ≤ R → (x = (2147483647, 0) ∨ NIx x) → NIx (tlL (tlR ch m (e + 1)) (nI m) (nI R) (nI S) bf (ch e) k l x) := by
      intro k
      induction k with
      | zero => intro l x _ _ h; omega
      | succ k ihk =>
        intro l x hl h1 hk hmR h
        rw [tlL]
        rcases h with h | h
        · by_cases hk0 : k = 0
          · subst hk0
            have hl5 : l = 5 := by omega
            subst hl5
            exact (one 5 x (by omega) h1).2 (by show 1 + m ≤ R; omega) h
          · obtain ⟨q1, q2, q3⟩ := sh32 l (by omega) h1
            by_cases hs : 32 / 2 ^ l + m ≤ R
            · exact keep k (l + 1) _ (by omega) (by omega) ((one l x (by omega) h1).2 hs h)
            · refine ihk (l + 1) _ (by omega) (by omega) (by omega) hmR (Or.inl ?_)
              rw [if_neg]
              · exact h
              · rw [q1]
                rintro ⟨z, -⟩
                rw [room_le (by omega) hR q3] at z
                omega
        · exact keep k (l + 1) _ (by omega) (by omega) ((one l x (by omega) h1).1 h)
    unfold tlG
    refine ⟨fun h => ?_, fun hmR h => ?_⟩
    · split
      · rw [tlR]
        exact keep 5 1 x (by omega) (by omega) h
      · exact h
    · subst h
      rw [if_pos ⟨nI_le hmR (by omega), lt_max (by omega)⟩, tlR]
      exact find 5 1 _ (by omega) (by omega) (by omega) hmR (Or.inl rfl)
/-- both searches find the same -/
theorem code_eq {ch : Nat → Int32} {N : Nat} (hN : N ≤ 6) (hch : ∀ e, e < N → ∃ C, C ≤ 10 ∧ ch e = nI C) : gcR ch N 0 32 0 0 (-1, 0) = tlR ch N 0 32 0 0 (2147483647, 0) := by
  have h1 := code_rel hch N 0 32 0 0 (2147483647, 0) (-1, 0) (by omega) hN (by omega) (by omega) (Or.inl ⟨rfl, rfl⟩)
  have h2 := (code_keep hch N 0 32 0 0 (2147483647, 0) (by omega) hN (by omega) (by omega)).2 (by omega) rfl
  have hg : tlG ch N 0 (nI 32) (nI 0) 0 (2147483647, 0) = tlR ch N 0 32 0 0 (2147483647, 0) := by
    unfold tlG
    rw [if_pos ⟨nI_le (by omega) (by omega), by decide⟩]
    rfl
  rw [hg] at h1 h2
  obtain ⟨k, hk, ek⟩ := h2
  rcases h1 with ⟨h1, -⟩ | ⟨h1, -⟩
  · rw [h1] at ek
    have := congrArg Int32.toInt ek
    rw [nI_toInt (by omega), show (2147483647 : Int32).toInt = 2147483647 from rfl] at this
    omega
  · exact h1
def gcH (hi : Nat → Nat → Int32) (y : tlX) : Nat → Nat → Int32 := up2 (up2 hi 58 41 y.1) 58 40 y.2
theorem gcH_1 (hi : Nat → Nat → Int32) (y : tlX) (z : Int32) : up2 (gcH hi y) 58 41 z = gcH hi (z, y.2) := by
  unfold gcH
  rw [up2_comm _ _ _ (Or.inr (by decide)), up2_uu]
theorem gcH_2 (hi : Nat → Nat → Int32) (y : tlX) (z : Int32) : up2 (gcH hi y) 58 40 z = gcH hi (y.1, z) := by
  unfold gcH
  rw [up2_uu]
section REFCODES
variable {G : ph_G} {d f dr t n r ev wi sz lg a : Nat} {hi hi' : Nat → Nat → Int32} {hl : Nat → Nat → Int64} {Q : Option Value → ph_H → Prop} {row : Nat → Int32} {lw : Option Nat}
theorem c_gc_loop {e : Nat} {room sum bf : Int32} (hem : e < 6)
    (rec : Int32 → Int32 → Int32 → tlX → tlX)
    (ih : ∀ (room sum bf : Int32) (y : tlX) (Q : Option Value → ph_H → Prop), Q none (HP (gcH hi (rec room sum bf y)) hl f dr t) → Ct G (0, 0) d 260 [.ref 58, .int (nI (e + 1)), .int room, .int sum, .int bf] (HP (gcH hi y) hl f dr t) Q) :
    ∀ (k l : Nat) (y : tlX), l + k = 6 → Q none (HP (gcH hi (gcL rec room sum bf (hi 67 (e * 2 + 1)) k l y)) hl f dr t) →
    wq G (0, 0) (d + 1) 260 40 [some (.ref 58), some (.int (nI e)), some (.int room), some (.int sum), some (.int bf), some (.int (nI l))] [] (0, 0) (HP (gcH hi y) hl f dr t) Q := by
  intro k
  induction k with
  | zero =>
    intro l y hl' hQ
    refine wq_iload q260_40 rfl ?_
    refine wq_bipush q260_42 ?_
    refine wq_icmp_ge q260_44 (fun c44 => ?_) (fun c44 => ?_)
    · refine rV q260_99 ?_
      exact hQ
    · rw [show (6 : Int32) = nI 6 from rfl, nI_leI (by omega) (by omega)] at c44
      omega
  | succ k ihk =>
    intro l y hl' hQ
    have e3 : hI (HP (gcH hi y) hl f dr t) 67 (e * 2 + 1) = hi 67 (e * 2 + 1) := rfl
    rw [gcL] at hQ
    refine wq_iload q260_40 rfl ?_
    refine wq_bipush q260_42 ?_
    refine wq_icmp_ge q260_44 (fun c44 => ?_) (fun c44 => ?_)
    · rw [show (6 : Int32) = nI 6 from rfl, nI_leI (by omega) (by omega)] at c44
      omega
    · refine wq_iload_n q260_47 rfl ?_
      refine wq_bipush q260_48 ?_
      refine wq_iload q260_50 rfl ?_
      refine wq_ishr q260_52 ?_
      refine wq_icmp_lt q260_53 (fun c53 => ?_) (fun c53 => ?_)
      · rw [if_neg (Int32.not_le.mpr c53)] at hQ
        refine wq_iinc (ls' := [_, _, _, _, _, _]) q260_93 rfl rfl ?_
        refine wq_goto q260_96 ?_
        rw [nI_1]
        exact ihk (l + 1) y (by omega) hQ
      · rw [if_pos (Int32.not_lt.mp c53)] at hQ
        refine wq_aload_n q260_56 rfl ?_
        refine wq_iload_n q260_57 rfl ?_
        refine wq_iconst q260_58 ?_
        refine wq_iadd q260_59 ?_
        refine wq_iload_n q260_60 rfl ?_
        refine wq_bipush q260_61 ?_
        refine wq_iload q260_63 rfl ?_
        refine wq_ishr q260_65 ?_
        refine wq_isub q260_66 ?_
        refine wq_iload_n q260_67 rfl ?_
        refine wq_iload q260_68 rfl ?_
        refine wq_aload_n q260_70 rfl ?_
        refine wq_getR q260_71 rfl rfl rfl ?_
        refine wq_iconst q260_74 ?_
        refine wq_iload_n q260_75 rfl ?_
        refine wq_imul q260_76 ?_
        refine wq_iconst q260_77 ?_
        refine wq_iadd q260_78 ?_
        refine aI q260_79 rfl (iv1 e) (by show e * 2 + 1 < 12; omega) (by first | decide | omega) ?_
        rw [e3, nI_1]
        refine wq_imul q260_80 ?_
        refine wq_iadd q260_81 ?_
        refine wq_bipush q260_82 ?_
        refine wq_iload q260_84 rfl ?_
        refine wq_imul q260_86 ?_
        refine wq_iload q260_87 rfl ?_
        refine wq_iadd q260_89 ?_
        refine cV (As := [_, _, _, _]) q260_90 m_260 rfl rfl rfl ⟨by decide, rfl⟩ rfl (ih _ _ _ _ _ ?_)
        refine wq_iinc (ls' := [_, _, _, _, _, _]) q260_93 rfl rfl ?_
        refine wq_goto q260_96 ?_
        rw [nI_1]
        exact ihk (l + 1) _ (by omega) hQ
theorem c_goCodes (hev : ev ≤ 6) (h27 : hi 58 27 = nI ev) : ∀ (m e : Nat) (room sum bf : Int32) (y : tlX) (Q : Option Value → ph_H → Prop), e + m = ev → Q none (HP (gcH hi (gcR (fun e => hi 67 (e * 2 + 1)) m e room sum bf y)) hl f dr t) →
    Ct G (0, 0) (d + m) 260 [.ref 58, .int (nI e), .int room, .int sum, .int bf] (HP (gcH hi y) hl f dr t) Q := by
  have ec : ∀ y, hI (HP (gcH hi y) hl f dr t) 58 27 = nI ev := fun y => h27
  have e41 : ∀ y : tlX, hI (HP (gcH hi y) hl f dr t) 58 41 = y.1 := fun y => rfl
  intro m
  induction m with
  | zero =>
    intro e room sum bf y Q hem hQ
    rw [gcR] at hQ
    have put : Q none (HP (gcH hi (sum, bf)) hl f dr t) → wq G (0, 0) (d + 0) 260 25 [some (.ref 58), some (.int (nI e)), some (.int room), some (.int sum), some (.int bf), none] [] (0, 0) (HP (gcH hi y) hl f dr t) Q := by
      intro hq
      refine wq_aload_n q260_25 rfl ?_
      refine wq_iload_n q260_26 rfl ?_
      refine wq_putI q260_27 rfl rfl rfl rfl ?_
      refine wq_aload_n q260_30 rfl ?_
      refine wq_iload q260_31 rfl ?_
      refine wq_putI q260_33 rfl rfl rfl rfl ?_
      refine rV q260_36 ?_
      rw [hpS, hpS, gcH_1, gcH_2]
      exact hq
    refine Ct_of (ls := [_, _, _, _, _, _]) m_260.1.2.2.1 (Nat.le_of_ble_eq_true rfl) rfl ?_
    refine wq_iload_n q260_0 rfl ?_
    refine wq_aload_n q260_1 rfl ?_
    refine wq_getI q260_2 rfl rfl ?_
    refine wq_icmp_ne q260_5 (fun c5 => ?_) (fun c5 => ?_)
    · rw [ec, nI_eq (by omega) (by omega)] at c5
      omega
    · refine wq_aload_n q260_8 rfl ?_
      refine wq_getI q260_9 rfl rfl ?_
      refine wq_iconst q260_12 ?_
      refine wq_icmp_eq q260_13 (fun c13 => ?_) (fun c13 => ?_)
      · rw [e41] at c13
        rw [if_neg (fun z => z.1 c13)] at hQ
        exact put hQ
      · rw [e41] at c13
        refine wq_iload_n q260_16 rfl ?_
        refine wq_aload_n q260_17 rfl ?_
        refine wq_getI q260_18 rfl rfl ?_
        refine wq_icmp_lt q260_21 (fun c21 => ?_) (fun c21 => ?_)
        · rw [e41] at c21
          rw [if_neg (fun z => absurd z.2 (Int32.not_le.mpr c21))] at hQ
          exact put hQ
        · rw [e41] at c21
          rw [if_pos ⟨c13, Int32.not_lt.mp c21⟩] at hQ
          refine rV q260_24 ?_
          exact hQ
  | succ m ih =>
    intro e room sum bf y Q hem hQ
    refine Ct_of (ls := [_, _, _, _, _, _]) m_260.1.2.2.1 (Nat.le_of_ble_eq_true rfl) rfl ?_
    refine wq_iload_n q260_0 rfl ?_
    refine wq_aload_n q260_1 rfl ?_
    refine wq_getI q260_2 rfl rfl ?_
    refine wq_icmp_ne q260_5 (fun c5 => ?_) (fun c5 => ?_)
    · refine wq_iconst q260_37 ?_
      refine wq_istore (ls' := [_, _, _, _, _, _]) q260_38 rfl ?_
      exact c_gc_loop (by omega) (gcR (fun e => hi 67 (e * 2 + 1)) m (e + 1)) (fun room sum bf y Q hq => ih (e + 1) room sum bf y Q (by omega) hq) 5 1 y (by omega) hQ
    · rw [ec, nI_eq (by omega) (by omega)] at c5
      omega
theorem gcR_congr {ch ch' : Nat → Int32} {N : Nat} (h : ∀ e, e < N → ch e = ch' e) : ∀ (m e : Nat), e + m ≤ N → gcR ch m e = gcR ch' m e := by
  intro m
  induction m with
  | zero => intro e _; rfl
  | succ m ih =>
    intro e he
    funext room sum bf y
    rw [gcR, gcR, ih (e + 1) (by omega), h e (by omega)]
theorem c_rcodes {w : Int32} (hF : RF hi f lw sz n ev wi) (h0 : ¬ (0 ≤ w ∧ w ≤ 1) → Q (some (.int (-1))) (HP (up2 hi 58 0 0) hl f dr t))
    (h1 : 0 ≤ w → w ≤ 1 → ∀ hi', RS hi hi' → Q (some (.int (if w = 0 then (tlR (fun e => hi (f + 3) (e * 2 + 1)) ev 0 32 0 0 (2147483647, 0)).2 else (tlR (fun e => hi (f + 3) (e * 2 + 1)) ev 0 32 0 0 (2147483647, 0)).1))) (HP hi' hl f dr t)) : Ct G (0, 0) (d + 7) 261 [.ref 58, .int w] (HP hi hl f dr t) Q := by
  have hn := hF.2.1.1
  have hn1 := hF.2.1.2.1
  have hev := hF.2.1.2.2.1
  have e26 : hI (HP (up2 hi 58 0 0) hl f dr t) 58 26 = nI n := hF.2.2.1.1
  have hB := hF.2.2.2.1.2.2
  have hch : ∀ e, e < ev → ∃ C, C ≤ 10 ∧ hi (f + 3) (e * 2 + 1) = nI C := fun e he => nI_of2 (M := 10) (n := 10) rfl (fun z => by
    have h : fLo 2 1 ≤ hi (f + 3) (e * 2 + 1) := (hB e 1 he (by decide)).1
    rw [Int32.le_iff_toInt_le, show (fLo 2 1).toInt = 0 by decide] at h
    rw [Int32.lt_iff_toInt_lt, show (0 : Int32).toInt = 0 from rfl] at z
    omega) (hB e 1 he (by decide)).2
  rw [← code_eq hev hch] at h1
  refine Ct_of (ls := [_, _]) m_261.1.2.2.1 (Nat.le_of_ble_eq_true rfl) rfl ?_
  refine wq_aload_n q261_0 rfl ?_
  refine wq_iconst q261_1 ?_
  refine wq_putI q261_2 rfl rfl rfl rfl ?_
  rw [hpS]
  refine wq_aload_n q261_5 rfl ?_
  refine wq_getI q261_6 rfl rfl ?_
  refine wq_if_eq q261_9 (fun c9 => ?_) (fun c9 => ?_)
  · rw [e26] at c9
    exact absurd c9 (nI_ne0 (by omega) (by omega))
  · refine wq_iload_n q261_12 rfl ?_
    refine wq_i2l q261_13 ?_
    refine wq_lconst q261_14 ?_
    refine wq_lconst q261_15 ?_
    refine cS' (As := [_, _, _]) q261_16 m_170 rfl rfl rfl (c_isIn ?_)
    refine wq_if_ne q261_19 (fun c19 => ?_) (fun c19 => ?_)
    · have c := iiB_01.mp (i10 c19)
      refine wq_aload_n q261_24 rfl ?_
      refine wq_iconst q261_25 ?_
      refine wq_putI q261_26 rfl rfl rfl rfl ?_
      refine wq_aload_n q261_29 rfl ?_
      refine wq_iconst q261_30 ?_
      refine wq_putI q261_31 rfl rfl rfl rfl ?_
      rw [hpS, hpS]
      have eh : up2 (up2 (up2 hi 58 0 0) 58 41 (-1)) 58 40 0 = gcH (up2 hi 58 0 0) (-1, 0) := rfl
      rw [eh]
      have hct := c_goCodes (G := G) (d := d + 6 - ev) (f := f) (dr := dr) (t := t) (hl := hl) (hi := up2 hi 58 0 0) hev hF.2.2.1.2.1 ev 0 32 0 0 (-1, 0)
      rw [show d + 6 - ev + ev = d + 6 by omega, gcR_congr (ch := fun e => up2 hi 58 0 0 67 (e * 2 + 1)) (ch' := fun e => hi (f + 3) (e * 2 + 1)) (N := ev) (fun e he => hF.2.2.1.2.2.2.2 _ (by omega)) ev 0 (by omega)] at hct
      refine wq_aload_n q261_34 rfl ?_
      refine wq_iconst q261_35 ?_
      refine wq_bipush q261_36 ?_
      refine wq_iconst q261_38 ?_
      refine wq_iconst q261_39 ?_
      refine cV (As := [_, _, _, _]) q261_40 m_260 rfl rfl rfl ⟨by decide, rfl⟩ rfl (hct _ (by omega) ?_)
      have hrs : ∀ y, RS hi (gcH (up2 hi 58 0 0) y) := fun y => ((RS.upK (by decide) _).tr (RS.upK (by decide) _)).tr (RS.upK (by decide) _)
      have h1 := h1 c.1 c.2 _ (hrs (gcR (fun e => hi (f + 3) (e * 2 + 1)) ev 0 32 0 0 (-1, 0)))
      generalize gcR (fun e => hi (f + 3) (e * 2 + 1)) ev 0 32 0 0 (-1, 0) = Y at h1 ⊢
      refine wq_iload_n q261_43 rfl ?_
      refine wq_if_ne q261_44 (fun c44 => ?_) (fun c44 => ?_)
      · rw [if_neg c44] at h1
        refine wq_aload_n q261_54 rfl ?_
        refine wq_getI q261_55 rfl rfl ?_
        refine rI q261_58 rfl ?_
        exact h1
      · rw [if_pos c44] at h1
        refine wq_aload_n q261_47 rfl ?_
        refine wq_getI q261_48 rfl rfl ?_
        refine wq_goto q261_51 ?_
        refine rI q261_58 rfl ?_
        exact h1
    · have c := i01 c19
      refine wq_iconst q261_22 ?_
      refine rI q261_23 rfl ?_
      exact h0 (fun z => by rw [iiB_01.mpr z] at c; cases c)
end REFCODES
