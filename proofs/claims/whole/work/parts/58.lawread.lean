/-! THE CLASS reads a law; the value of what it read -/
/-- a whole text is read: how it leaves the tape and the signs -/
def lawEv (lt : Nat → Int32) : List Cl → Int32
  | [] => 0
  | cl :: l => match cl.1 with
    | none => cl.2.2 lt
    | some e => if e.2 lt = 0 then lawEv lt l else cl.2.2 lt
theorem ceL_skip {sg : Nat → Int32} : ∀ (k m i : Nat), (∀ j, j < k → ¬ sg (i + j) = -59) → sg (i + k) = -59 → ceL sg (k + 1 + m) i = i + k := by
  intro k
  induction k with
  | zero =>
    intro m i _ h
    rw [show 0 + 1 + m = m + 1 by omega, ceL, if_pos (show sg i = -59 from h)]
    rfl
  | succ k ih =>
    intro m i h1 h2
    rw [show k + 1 + 1 + m = (k + 1 + m) + 1 by omega, ceL, if_neg (show ¬ sg i = -59 from h1 0 (by omega)), ih m (i + 1) (fun j hj => by rw [show i + 1 + j = i + (j + 1) by omega]; exact h1 (j + 1) (by omega)) (by rw [show i + 1 + k = i + (k + 1) by omega]; exact h2)]
    omega
theorem mem_gd {l : List Int32} {k : Nat} (h : k < l.length) : l.getD k 0 ∈ l := by
  rw [List.getD_eq_getElem?_getD, List.getElem?_eq_getElem h]
  exact List.getElem_mem h
/-- the signs of a law give its value -/
theorem wo_law {sg lt : Nat → Int32} {sz : Nat} : ∀ (l : List Cl) (m i : Nat) (stk : Nat → Int32), (∀ cl, cl ∈ l → clR cl) → (∀ k, k < (lwS l).length → sg (i + k) = (lwS l).getD k 0) → i + (lwS l).length = sz → sz - i ≤ m → wo sg sz lt m i 0 stk = lawEv lt l := by
  intro l
  induction l with
  | nil =>
    intro m i stk _ _ hsz hm
    have : i = sz := by simpa [lwS] using hsz
    subst this
    cases m with
    | zero => rfl
    | succ m => rw [wo, if_pos (Nat.le_refl _)]; rfl
  | cons cl l ih =>
    intro m i stk hcl hsg hsz hm
    obtain ⟨hv, he⟩ := hcl cl List.mem_cons_self
    have hl : lwS (cl :: l) = clS cl ++ ([-59] ++ lwS l) := by
      show (clS cl ++ [-59]) ++ lwS l = _
      rw [List.append_assoc]
    have hlen : (lwS (cl :: l)).length = (clS cl).length + (1 + (lwS l).length) := by rw [hl, List.length_append, List.length_append]; rfl
    rw [hlen] at hsg hsz
    rw [hl] at hsg
    have end59 : sg (i + (clS cl).length) = -59 := by
      rw [hsg _ (by omega)]
      exact gd_r (k := 0)
    have rest : ∀ k, k < (lwS l).length → sg (i + (clS cl).length + 1 + k) = (lwS l).getD k 0 := by
      intro k hk
      rw [show i + (clS cl).length + 1 + k = i + ((clS cl).length + (1 + k)) by omega, hsg _ (by omega), gd_r]
      exact gd_r (a := [-59])
    have own : ∀ k, k < (clS cl).length → sg (i + k) = (clS cl).getD k 0 := by
      intro k hk
      rw [hsg k (by omega), gd_l hk]
    cases hc : cl.1 with
    | none =>
      have hcs : clS cl = cl.2.1 := by unfold clS; rw [hc]
      have hev : lawEv lt (cl :: l) = cl.2.2 lt := by rw [lawEv, hc]
      rw [hcs] at own end59 hsz
      obtain ⟨s1, g1, g2, g3⟩ := hv.2 sg sz lt (m - cl.2.1.length) i 0 stk own (by omega) (by omega)
      rw [show m = m - cl.2.1.length + cl.2.1.length by omega, g3, show m - cl.2.1.length = (m - cl.2.1.length - 1) + 1 by omega, wo, if_neg (by omega), end59, if_neg (by decide), if_pos (Or.inl rfl), if_neg (by omega), hev]
      exact g2
    | some e =>
      have hcs : clS cl = e.1 ++ (-63 :: cl.2.1) := by unfold clS; rw [hc]
      have hev : lawEv lt (cl :: l) = if e.2 lt = 0 then lawEv lt l else cl.2.2 lt := by rw [lawEv, hc]
      have hcl2 : (clS cl).length = e.1.length + (1 + cl.2.1.length) := by rw [hcs, List.length_append, List.length_cons]; omega
      rw [hcs] at own
      rw [hcl2] at end59 hsz rest
      rw [show (e.1 ++ (-63 :: cl.2.1)).length = e.1.length + (1 + cl.2.1.length) by rw [List.length_append, List.length_cons]; omega] at own
      obtain ⟨s1, g1, g2, g3⟩ := (he e hc).2 sg sz lt (m - e.1.length) i 0 stk (fun k hk => by rw [own k (by omega), gd_l hk]) (by omega) (by omega)
      have e63 : sg (i + e.1.length) = -63 := by
        rw [own _ (by omega)]
        exact gd_r (k := 0)
      have ov : ∀ k, k < cl.2.1.length → sg (i + e.1.length + 1 + k) = cl.2.1.getD k 0 := by
        intro k hk
        rw [show i + e.1.length + 1 + k = i + (e.1.length + (1 + k)) by omega, own _ (by omega), gd_r]
        exact gd_r (a := [-63])
      rw [show m = m - e.1.length + e.1.length by omega, g3, show m - e.1.length = (m - e.1.length - 1) + 1 by omega, wo, if_neg (by omega), e63, if_neg (by decide), if_neg (by rintro (z | z); exact absurd z (by decide); omega), if_neg (by decide), if_pos rfl, hev]
      have g2' : s1 (0 + 1 - 1) = e.2 lt := g2
      rw [g2']
      by_cases hz : e.2 lt = 0
      · rw [if_pos hz, if_pos hz]
        have hce : ceL sg (sz - (i + e.1.length)) (i + e.1.length) = i + (e.1.length + (1 + cl.2.1.length)) := by
          have h1 := ceL_skip (sg := sg) (1 + cl.2.1.length) (lwS l).length (i + e.1.length) (fun j hj => ?_) (by rw [Nat.add_assoc]; exact end59)
          · rw [show sz - (i + e.1.length) = 1 + cl.2.1.length + 1 + (lwS l).length by omega, h1]
            omega
          · rcases Nat.eq_zero_or_pos j with z | z
            · subst z
              rw [Nat.add_zero, e63]
              decide
            · obtain ⟨j', rfl⟩ : ∃ j', j = j' + 1 := ⟨j - 1, by omega⟩
              rw [show i + e.1.length + (j' + 1) = i + e.1.length + 1 + j' by omega, ov j' (by omega)]
              exact hv.1 _ (mem_gd (by omega))
        rw [hce]
        exact ih _ _ _ (fun c hc' => hcl c (List.mem_cons_of_mem _ hc')) rest (by omega) (by omega)
      · rw [if_neg hz, if_neg hz]
        obtain ⟨s2, q1, q2, q3⟩ := hv.2 sg sz lt (m - e.1.length - 1 - cl.2.1.length) (i + e.1.length + 1) 0 s1 ov (by omega) (by omega)
        rw [show m - e.1.length - 1 = m - e.1.length - 1 - cl.2.1.length + cl.2.1.length by omega, show 0 + 1 - 1 = 0 by rfl, q3, show m - e.1.length - 1 - cl.2.1.length = (m - e.1.length - 1 - cl.2.1.length - 1) + 1 by omega, wo, if_neg (by omega)]
        have e59 : sg (i + e.1.length + 1 + cl.2.1.length) = -59 := by rw [show i + e.1.length + 1 + cl.2.1.length = i + (e.1.length + (1 + cl.2.1.length)) by omega]; exact end59
        rw [e59, if_neg (by decide), if_pos (Or.inl rfl), if_neg (by omega)]
        exact q2
theorem lawV_ev {sg lt : Nat → Int32} {l : List Cl} (h : ∀ cl, cl ∈ l → clR cl) : lawV (apL sg 0 (lwS l)) (lwS l).length lt = lawEv lt l := by
  refine wo_law l _ 0 _ h (fun k hk => ?_) (by omega) (by omega)
  unfold apL
  rw [if_pos (by omega), Nat.zero_add, Nat.sub_zero]
/-- the clauses of a law that was read run -/
theorem pLaw_ok {b : Nat → Int32} {L : Nat} : ∀ (m p : Nat), p ≤ L → (∀ q, pLaw b L m p = .inl q → q ≤ L) ∧ ∀ p' l, pLaw b L m p = .inr (p', l) → p' ≤ L ∧ ∀ cl, cl ∈ l → clR cl := by
  intro m
  induction m with
  | zero => intro p hp; exact ⟨fun q h => (by cases h), fun p' l h => by cases h; exact ⟨hp, fun cl hc => (by cases hc)⟩⟩
  | succ m ih =>
    intro p hp
    have hc := pClause_ok (b := b) hp
    unfold pLaw
    cases h1 : pClause b L p with
    | inl q1 => exact ⟨fun q h => (by cases h; exact hc.1 _ h1), fun p' l h => (by cases h)⟩
    | inr z =>
      obtain ⟨p1, cl⟩ := z
      obtain ⟨g1, g2, g3, g4⟩ := hc.2 _ _ h1
      have hs := tpSkip_le (b := b) g2
      rw [pB_r]
      by_cases h59 : tat b L (tpSkip b L p1) = 59
      · rw [if_pos h59]
        have hlt := tat_lt h59 (by decide)
        have ih' := ih (tpSkip b L p1 + 1) hlt
        cases h2 : pLaw b L m (tpSkip b L p1 + 1) with
        | inl q1 => exact ⟨fun q h => (by cases h; exact ih'.1 _ h2), fun p' l h => (by cases h)⟩
        | inr y =>
          obtain ⟨p2, l2⟩ := y
          refine ⟨fun q h => (by cases h), fun p' l h => ?_⟩
          cases h
          obtain ⟨k1, k2⟩ := ih'.2 _ _ h2
          exact ⟨k1, fun c hc' => by
            rcases List.mem_cons.mp hc' with z | z
            · rw [z]; exact g4
            · exact k2 c z⟩
      · rw [if_neg h59]
        refine ⟨fun q h => (by cases h), fun p' l h => ?_⟩
        cases h
        exact ⟨hs.2, fun c hc' => by rw [List.mem_singleton.mp hc']; exact g4⟩
section LAWREAD
variable {G : ph_G} {d f dr t L p la sz : Nat} {hi : Nat → Nat → Int32} {hl : Nat → Nat → Int64} {w : Int32} {Q : Option Value → ph_H → Prop} {sg : Nat → Int32} {b : Nat → Int32}
theorem c_lread_loop (hk : Lok la) (hT : TK hi L) : ∀ (m k p : Nat) (w : Int32) (sz : Nat) (sg : Nat → Int32), k + m = 240 → p ≤ L → sz ≤ 241 → (w = -1 → sz ≤ p) →
    (∀ p' w' sz' sg' x2, LR L (pM (pLaw (hi 2) L m p) lwS) w sz sg p' w' sz' sg' → wq G (0, 0) (d + 30) 34 43 [some (.ref la), some (.ref 1), x2] [] (0, 0) (HP (tpS (lwB hi la sz' sg') p' w') hl f dr t) Q) →
    wq G (0, 0) (d + 30) 34 7 [some (.ref la), some (.ref 1), some (.int (nI k))] [] (0, 0) (HP (tpS (lwB hi la sz sg) p w) hl f dr t) Q := by
  have hLm := hT.2.1
  intro m
  induction m with
  | zero =>
    intro k p w sz sg hm hp hsz hw hQ
    refine wq_iload_n q34_7 rfl ?_
    refine wq_sipush q34_8 ?_
    refine wq_icmp_ge q34_11 (fun c11 => ?_) (fun c11 => ?_)
    · refine hQ _ _ _ _ _ ?_
      by_cases h1 : w = -1
      · subst h1
        exact LR_ok (out := []) rfl hp rfl hsz (apL_nil _ _).symm
      · exact LR_w h1 hp hsz
    · rw [show (240 : Int32) = nI 240 from rfl, nI_leI (by omega) (by omega)] at c11
      omega
  | succ m ih =>
    intro k p w sz sg hm hp hsz hw hQ
    obtain ⟨l1, -⟩ := hk.lw (tpS (lwB hi la sz sg) p w) hl f dr t
    have hpc := pClause_ok (b := hi 2) hp
    refine wq_iload_n q34_7 rfl ?_
    refine wq_sipush q34_8 ?_
    refine wq_icmp_ge q34_11 (fun c11 => ?_) (fun c11 => ?_)
    · rw [show (240 : Int32) = nI 240 from rfl, nI_leI (by omega) (by omega)] at c11
      omega
    · refine wq_aload_n q34_14 rfl ?_
      refine wq_aload_n q34_15 rfl ?_
      refine cV (As := [_]) q34_16 m_35 rfl rfl (by first | exact l1 | rfl) ⟨by decide, rfl⟩ rfl (c_readClause (d := d) hk hT hp hsz hw (fun p1 w1 sz1 sg1 h1 => ?_))
      refine LR_bindA (g := fun p' cl => if tat (hi 2) L (tpSkip (hi 2) L p') = 59 then pB (pLaw (hi 2) L m (tpSkip (hi 2) L p' + 1)) (fun p'' l => pok p'' (cl :: l)) else pok (tpSkip (hi 2) L p') [cl]) (ob := lwS) (none, exNum 0) hpc.1 h1 (fun cl e1 k1 => ?_) hLm
      obtain ⟨l3, -⟩ := hk.lw (tpS (lwB hi la sz1 sg1) p1 w1) hl f dr t
      refine wq_aload_n q34_19 rfl ?_
      refine wq_bipush q34_20 ?_
      refine cV (As := [_]) q34_22 m_44 rfl rfl (by first | exact l3 | rfl) ⟨by decide, rfl⟩ rfl (c_put hk h1.2.1 (fun sz2 sg2 g1 g2 => ?_))
      obtain ⟨hL, hb⟩ := lwB_T hk hT sz2 sg2
      have hs := tpSkip_le (b := hi 2) h1.1
      refine wq_aload_n q34_25 rfl ?_
      refine wq_bipush q34_26 ?_
      refine cV (As := [_]) q34_28 m_71 rfl rfl rfl ⟨by decide, rfl⟩ rfl (c_takes hL hLm h1.1 ?_)
      rw [hb]
      by_cases hw1 : w1 = -1
      · subst hw1
        obtain ⟨q1, q2, q3, q4⟩ := e1 rfl
        obtain ⟨a1, a2, a3, a4⟩ := hpc.2 _ _ q2
        have := hw q1
        obtain ⟨g3, g4⟩ := g1 (by omega)
        rw [tat_here]
        have hz2 : sz2 = sz + (clS cl ++ [-59]).length ∧ sg2 = apL sg sz (clS cl ++ [-59]) := by
          refine ⟨by rw [List.length_append, List.length_singleton]; omega, ?_⟩
          rw [g4, q4, q3, apL_app]
        by_cases h59 : tat (hi 2) L (tpSkip (hi 2) L p1) = 59
        · rw [if_pos h59, if_pos h59, pass_lt (tat_lt h59 (by decide))]
          rw [if_pos h59] at k1
          have hlt := tat_lt h59 (by decide)
          refine wq_if_ne q34_31 (fun c31 => ?_) (fun c31 => ?_)
          · refine wq_iinc (ls' := [_, _, _]) q34_37 rfl rfl ?_
            refine wq_goto q34_40 ?_
            rw [nI_1]
            refine ih (k + 1) _ (-1) sz2 sg2 (by omega) hlt g2 (fun _ => by omega) (fun p' w' sz' sg' x2 h => hQ _ _ _ _ _ (k1 _ _ _ _ (LR_map (F := fun l => cl :: l) ?_)))
            exact LR_shift (pre := clS cl ++ [-59]) h (fun _ => hz2)
          · exact absurd c31 (by decide)
        · rw [if_neg h59, if_neg h59]
          rw [if_neg h59] at k1
          refine wq_if_ne q34_31 (fun c31 => ?_) (fun c31 => ?_)
          · exact absurd rfl c31
          · refine wq_goto q34_34 ?_
            refine hQ _ _ _ _ _ (k1 _ _ _ _ (LR_ok (out := lwS [cl]) rfl hs.2 ?_ g2 ?_))
            · rw [hz2.1]
              simp [lwS]
            · rw [hz2.2]
              simp [lwS]
      · rw [here_w hw1, if_neg (by decide), if_neg (by decide)]
        refine wq_if_ne q34_31 (fun c31 => ?_) (fun c31 => ?_)
        · exact absurd rfl c31
        · refine wq_goto q34_34 ?_
          exact hQ _ _ _ _ _ (k1 _ _ _ _ (LR_w hw1 hs.2 g2))
/-- a law is read: from the tape's start -/
theorem c_lread (hk : Lok la) (hT : TK hi L) {sg : Nat → Int32} (hsg : hi (la + 1) = sg)
    (hQ : ∀ p' w' sz' sg', LR L (pM (pLawT (hi 2) L) lwS) (-1) 0 sg p' w' sz' sg' → Q none (HP (tpS (lwB hi la sz' sg') p' w') hl f dr t)) : Ct G (0, 0) (d + 30) 34 [.ref la, .ref 1] (HP (tpS hi 0 (-1)) hl f dr t) Q := by
  obtain ⟨l1, l2, l3, l4, l5, l6⟩ := hk.lw (tpS hi 0 (-1)) hl f dr t
  have h1 : la ≠ 1 := by rcases hk with rfl | rfl | rfl | rfl | rfl <;> decide
  have hLm := hT.2.1
  have e0 : up2 (tpS hi 0 (-1)) la 2 0 = tpS (lwB hi la 0 sg) 0 (-1) := by
    unfold tpS lwB
    rw [up2_comm _ _ _ (Or.inl h1.symm), up2_comm _ _ _ (Or.inl h1.symm), upC_self]
    · rfl
    · rw [up2_o _ _ _ (by omega)]
      exact hsg.symm
  refine Ct_of (ls := [_, _, _]) m_34.1.2.2.1 (Nat.le_of_ble_eq_true rfl) rfl ?_
  refine wq_aload_n q34_0 rfl ?_
  refine wq_iconst q34_1 ?_
  refine wq_putI q34_2 (by first | exact l1 | rfl) rfl rfl rfl ?_
  refine wq_iconst q34_5 ?_
  refine wq_istore_n (ls' := [_, _, _]) q34_6 rfl ?_
  rw [hpS, e0]
  refine c_lread_loop hk hT 240 0 0 (-1) 0 sg (by omega) (by omega) (by omega) (fun _ => by omega) (fun p1 w1 sz1 sg1 x2 h1 => ?_)
  obtain ⟨hL, hb⟩ := lwB_T hk hT sz1 sg1
  have hs := tpSkip_le (b := hi 2) h1.1
  refine wq_aload_n q34_43 rfl ?_
  refine cV (As := []) q34_44 m_73 rfl rfl rfl ⟨by decide, rfl⟩ rfl (c_expectEnd hL hLm h1.1 ?_)
  refine rV q34_47 ?_
  rw [hb]
  refine LR_bindA (x := pLaw (hi 2) L 240 0) (oa := lwS) (ob := lwS) (g := fun p a => if tat (hi 2) L (tpSkip (hi 2) L p) = -1 then pok (tpSkip (hi 2) L p) a else pno (tpSkip (hi 2) L p)) [] (pLaw_ok 240 0 (by omega)).1 h1 (fun l e1 k1 => ?_) hLm
  by_cases hw1 : w1 = -1
  · subst hw1
    obtain ⟨q1, q2, q3, q4⟩ := e1 rfl
    rw [tat_here]
    by_cases he : tat (hi 2) L (tpSkip (hi 2) L p1) = -1
    · rw [if_pos he] at k1 ⊢
      exact hQ _ _ _ _ (k1 _ _ _ _ (LR_ok rfl hs.2 q3 h1.2.1 q4))
    · rw [if_neg he] at k1 ⊢
      rw [tpF_1]
      exact hQ _ _ _ _ (k1 _ _ _ _ (LR_no rfl hs.2 h1.2.1))
  · rw [here_w hw1, if_pos rfl]
    exact hQ _ _ _ _ (k1 _ _ _ _ (LR_w hw1 hs.2 h1.2.1))
end LAWREAD
