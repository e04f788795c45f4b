/-! THE WORLD AT THE START: what the Statement gives of it -/
abbrev nrw : Cond := Jvm.Cond.and given_1 narrow_1
def tmS : List (String × Nat) := [(RX3, 67), (RX3, 82), (RX3, 93), (RX5, 79), (RX6, 32), (RX11, 26), (RX10, 164), (RX10, 185)]
abbrev tmN (i : Nat) : Term := .string (tmS.getD i ("", 0)).1 (tmS.getD i ("", 0)).2
abbrev tmV (i : Nat) : Term := .field (tmN i) "java/lang/String" "value" "[B"
abbrev cSg (i : Nat) : String × List Int32 := cS.getD i ("", [])
abbrev cRg (i : Nat) : String × Nat × String × Nat := cR.getD i ("", 0, "", 0)
def flN : List Cond := flatC nrw
set_option maxRecDepth 100000 in
theorem st_c1 : ∀ i, i < 8 → Cond.exactly (tmN i) "java/lang/String" ∈ flN ∧ Cond.eq (.field (tmN i) "java/lang/String" "coder" "B") (.int 0) ∈ flN ∧ Cond.arrayOf (tmV i) .byte ∈ flN ∧ Cond.eq (.length (tmV i)) (.int (Int32.ofNat (cLen.getD i 0))) ∈ flN := by decide +kernel
set_option maxRecDepth 100000 in
theorem st_c2 : ∀ i, i < 8 → ∀ j, j < cLen.getD i 0 → Cond.eq (.elem (tmV i) (.int (Int32.ofNat j))) (.int ((cByt.getD i []).getD j 0)) ∈ flN := by decide +kernel
set_option maxRecDepth 100000 in
theorem st_c3 : ∀ i, i < 8 → ∀ j, j < 8 → i ≠ j → Cond.not (Cond.eq (tmN i) (tmN j)) ∈ flN ∨ Cond.not (Cond.eq (tmN j) (tmN i)) ∈ flN := by decide +kernel
set_option maxRecDepth 100000 in
theorem st_s : ∀ i, i < 9 → Cond.arrayOf (.static RX10 (cSg i).1 "[I") .int ∈ flN ∧ Cond.eq (.length (.static RX10 (cSg i).1 "[I")) (.int (Int32.ofNat (cSg i).2.length)) ∈ flN ∧ (∀ j, j < (cSg i).2.length → Cond.eq (.elem (.static RX10 (cSg i).1 "[I") (.int (Int32.ofNat j))) (.int ((cSg i).2.getD j 0)) ∈ flN) ∧ Cond.laysStatic RX10 (cSg i).1 "[I" ∈ lw_tbl ∧ (cSg i).2.length < 6 := by decide +kernel
set_option maxRecDepth 100000 in
theorem st_i : ∀ ci, ci < 12 → Cond.instantiable (vC ci) (vN ci) ∈ lw_tbl := by decide +kernel
set_option maxRecDepth 100000 in
theorem st_r : ∀ i, i < 13 → Cond.stringRef (cRg i).1 (cRg i).2.1 (cRg i).2.2.1 ∈ lw_tbl ∧ (cRg i).2.2.2 < 8 ∧ (tmS.getD (cRg i).2.2.2 ("", 0) = ((cRg i).1, (cRg i).2.1) ∨ Cond.eq (tmN (cRg i).2.2.2) (.string (cRg i).1 (cRg i).2.1) ∈ flN) := by decide +kernel
set_option maxRecDepth 100000 in
theorem st_w : (Cond.initialized RX10 ∈ lw_tbl ∧ Cond.initialized RJ0 ∈ lw_tbl ∧ Cond.initialized RJ3 ∈ lw_tbl ∧ Cond.initialized "java/lang/Throwable" ∈ lw_tbl) ∧ (Cond.laysStatic RJ0 "COMPACT_STRINGS" "Z" ∈ lw_tbl ∧ Cond.laysStatic RJ3 "SIOOBE_FORMATTER" "Ljava/util/function/BiFunction;" ∈ lw_tbl ∧ Cond.laysStatic "java/lang/Throwable" "UNASSIGNED_STACK" "[Ljava/lang/StackTraceElement;" ∈ lw_tbl ∧ Cond.laysStatic "java/lang/Throwable" "SUPPRESSED_SENTINEL" "Ljava/util/List;" ∈ lw_tbl) ∧ (Cond.arrayClass .int ∈ lw_tbl ∧ Cond.arrayClass .byte ∈ lw_tbl ∧ Cond.arrayClass .boolean ∈ lw_tbl ∧ Cond.arrayClass .long ∈ lw_tbl) ∧ Cond.arrayOver (.object RX5) ∈ lw_tbl ∧ Cond.arrayOver (.object RX6) ∈ lw_tbl := by decide +kernel
set_option maxRecDepth 100000 in
theorem st_n : Cond.eq (.static RJ0 "COMPACT_STRINGS" "Z") (.int 1) ∈ flN ∧ Cond.isRef (.static RJ3 "SIOOBE_FORMATTER" "Ljava/util/function/BiFunction;") ∈ flN ∧ Cond.isRef (.static "java/lang/Throwable" "UNASSIGNED_STACK" "[Ljava/lang/StackTraceElement;") ∈ flN ∧ Cond.isRef (.static "java/lang/Throwable" "SUPPRESSED_SENTINEL" "Ljava/util/List;") ∈ flN := by decide +kernel
theorem cLen_lt : ∀ i, i < 8 → cLen.getD i 0 < 2 ^ 31 := by decide +kernel
/-- where the constants lie -/
def gkF (ad adK adV : Nat → Nat) (b fm k : Nat) : Nat := if k < 9 then ad k else if k = 9 then b else if k < 40 then adK (k - 20) else if k < 60 then adV (k - 40) else fm
theorem gkF_s {ad adK adV : Nat → Nat} {b fm k : Nat} (h : k < 9) : gkF ad adK adV b fm k = ad k := if_pos h
theorem gkF_K {ad adK adV : Nat → Nat} {b fm i : Nat} (h : i < 8) : gkF ad adK adV b fm (20 + i) = adK i := by
  unfold gkF
  rw [if_neg (show ¬ 20 + i < 9 by omega), if_neg (show ¬ 20 + i = 9 by omega), if_pos (show 20 + i < 40 by omega), show 20 + i - 20 = i by omega]
theorem gkF_V {ad adK adV : Nat → Nat} {b fm i : Nat} (h : i < 8) : gkF ad adK adV b fm (40 + i) = adV i := by
  unfold gkF
  rw [if_neg (show ¬ 40 + i < 9 by omega), if_neg (show ¬ 40 + i = 9 by omega), if_neg (show ¬ 40 + i < 40 by omega), if_pos (show 40 + i < 60 by omega), show 40 + i - 40 = i by omega]
theorem vk_S_at {N : Nat} {len : List Nat} {byt : List (List Int32)} {k1 v1 k2 v2 : Nat → Nat} {A : Nat → Prop} {U : State} {H : Heap} (h : vk_S N len byt k1 v1 A U H) (e : ∀ i, i < N → k2 i = k1 i ∧ v2 i = v1 i) : vk_S N len byt k2 v2 A U H :=
  ⟨fun i hi => by rw [(e i hi).1, (e i hi).2]; exact h.1 i hi, fun i j hi hj z => h.2 i j hi hj (by rw [← (e i hi).1, ← (e j hj).1]; exact z)⟩
theorem st_K {s : State} {b L : Nat} {xs : Nat → Int32} (l : Launch) (htr : l.stackTraces = false) (hts : ∀ w ∈ lw_tbl, w.before #[Value.ref b] s = true) (hX : va_X b L xs s s.heap) (hbl : b < s.heap.size) (hgv : nrw.before #[Value.ref b] s = true) : ∃ G : ph_G, gL G = l ∧ gB G = s.heap.size ∧ gK G 9 = b ∧ gN G = L ∧ ph_K G s := by
  have hn : ∀ w ∈ flN, w.before #[Value.ref b] s = true := flat_of_before _ hgv
  have hA : ∀ a : Nat, a < s.heap.size → ¬ (fun q : Nat => s.heap.size ≤ q) a := fun a ha => Nat.not_le.mpr ha
  have hcl : ∀ ci : Nat, ∃ q : ClassId × (Nat → Nat), ci < 12 → u_Kn s (vC ci) (vT ci) (vN ci) q.1 q.2 := by
    intro ci
    by_cases hci : ci < 12
    · obtain ⟨cC, iS, h⟩ := u_known (C := vC ci) (T := vT ci) (N := vN ci) (n := vN ci) (ws := gw) (fun w hw => hts w (List.mem_filter.mp hw).1) (vws_in hci) (hts _ (st_i ci hci))
      exact ⟨(cC, iS), fun _ => h⟩
    · exact ⟨(0, fun _ => 0), fun h => absurd h hci⟩
  obtain ⟨cd, hcd⟩ := Classical.axiomOfChoice hcl
  have har : ∀ ty : FieldType, Cond.arrayClass ty ∈ lw_tbl → ∃ cA : ClassId, ArrOfT s cA ty ∧ s.vm.findClass ("[" ++ ty.toString) = some cA := by
    intro ty h
    obtain ⟨c, k, comp, h1, h2, h3⟩ := Cond.arrayClass_spec (hts _ h)
    exact ⟨c, fun n z => ⟨fun k h => (by cases h), k, h2, comp, h3⟩, h1⟩
  obtain ⟨a0, A0, B0⟩ := har _ st_w.2.2.1.1
  obtain ⟨a1, A1, B1⟩ := har _ st_w.2.2.1.2.1
  obtain ⟨a2, A2, B2⟩ := har _ st_w.2.2.1.2.2.1
  obtain ⟨a3, A3, B3⟩ := har _ st_w.2.2.1.2.2.2
  obtain ⟨p4, a4, k4, f1, -, f2, f3, f4⟩ := Cond.arrayOver_spec (hts _ st_w.2.2.2.1)
  obtain ⟨p5, a5, k5, g1, -, g2, g3, g4⟩ := Cond.arrayOver_spec (hts _ st_w.2.2.2.2)
  have hss : ∀ i : Nat, ∃ t : Nat, i < 9 → va_Z RX10 (cSg i).1 "[I" (.ref t) (fun q : Nat => s.heap.size ≤ q) s s.heap ∧ va_T .int t (cSg i).2.length (fun j => .int ((cSg i).2.getD j 0)) (fun q : Nat => s.heap.size ≤ q) s s.heap := by
    intro i
    by_cases hi : i < 9
    · obtain ⟨h1, h2, h3, h4, h5⟩ := st_s i hi
      obtain ⟨t, ht, hT⟩ := va_Tof (A := fun q : Nat => s.heap.size ≤ q) (tm := .static RX10 (cSg i).1 "[I") (f := fun j => .int ((cSg i).2.getD j 0)) (N := (cSg i).2.length) (by omega) (hn _ h1) (va_eqt (hn _ h2)) (fun j hj => va_eqt (hn _ (h3 j hj))) hA
      exact ⟨t, fun _ => ⟨va_Zref (hts _ h4) (hts _ st_w.1.1) ht hA, hT⟩⟩
    · exact ⟨0, fun h => absurd h hi⟩
  obtain ⟨ad, had⟩ := Classical.axiomOfChoice hss
  obtain ⟨adK, adV, hvS, hev⟩ := vk_Sof (args := #[Value.ref b]) (s := s) (N := 8) (tm := tmN) (len := cLen) (byt := cByt) (A := fun q : Nat => s.heap.size ≤ q) cLen_lt (fun i hi => hn _ (st_c1 i hi).1) (fun i hi => hn _ (st_c1 i hi).2.1) (fun i hi => hn _ (st_c1 i hi).2.2.1) (fun i hi => hn _ (st_c1 i hi).2.2.2) (fun i hi j hj => hn _ (st_c2 i hi j hj)) (fun i j hi hj hij => (st_c3 i hi j hj hij).imp (hn _) (hn _)) hA
  obtain ⟨fm, hfm⟩ : ∃ fm : Nat, va_Z RJ3 "SIOOBE_FORMATTER" "Ljava/util/function/BiFunction;" .null (fun q : Nat => s.heap.size ≤ q) s s.heap ∨ va_Z RJ3 "SIOOBE_FORMATTER" "Ljava/util/function/BiFunction;" (.ref fm) (fun q : Nat => s.heap.size ≤ q) s s.heap := by
    rcases va_Zqof (A := fun q : Nat => s.heap.size ≤ q) (hts _ st_w.2.1.2.1) (hts _ st_w.1.2.2.1) (hn _ st_n.2.1) hA with h | ⟨t, h⟩
    · exact ⟨0, Or.inl h⟩
    · exact ⟨t, Or.inr h⟩
  refine ⟨(l, (fun c => (cd c).1, fun c => (cd c).2), fun kd => if kd = 100 then a0 else if kd = 101 then a1 else if kd = 102 then a2 else if kd = 103 then a3 else if kd = 104 then a4 else a5, s.heap.size, gkF ad adK adV b fm, L, xs), rfl, rfl, rfl, rfl, ?_⟩
  refine ⟨⟨fun c q hq => ?_, fun k q hq => ?_⟩, fun w hw => va_Nw.of (nw_tabs hw) (hts w (List.mem_filter.mp hw).1), fun i q hq => ?_, ⟨fun i q hq => ?_, ?_, ?_, va_Zof (hts _ st_w.2.1.1) (hts _ st_w.1.2.1) (va_eqt (hn _ st_n.1)) hA, vx_Zqof (hts _ st_w.2.1.2.2.1) (hts _ st_w.1.2.2.2) (hn _ st_n.2.2.1) hA, vx_Zqof (hts _ st_w.2.1.2.2.2) (hts _ st_w.1.2.2.2) (hn _ st_n.2.2.2) hA, hfm⟩, Nat.le_refl _, htr, va_AO.of (hts _ st_w.2.2.2.1), va_AO.of (hts _ st_w.2.2.2.2)⟩
  · have hc : c < 12 := (List.getElem?_eq_some_iff.mp hq).1
    rw [vw_at hc] at hq
    cases hq
    exact hcd c hc
  · match k, hq with
    | 0, hq => cases hq; exact ⟨A0, B0⟩
    | 1, hq => cases hq; exact ⟨A1, B1⟩
    | 2, hq => cases hq; exact ⟨A2, B2⟩
    | 3, hq => cases hq; exact ⟨A3, B3⟩
    | 4, hq => cases hq; exact ⟨fun n z => ⟨fun k h => (by cases h), k4, f2, p4, f3⟩, k4, p4, f2, f3, f1, f4⟩
    | 5, hq => cases hq; exact ⟨fun n z => ⟨fun k h => (by cases h), k5, g2, p5, g3⟩, k5, p5, g2, g3, g1, g4⟩
    | k + 6, hq => simp at hq
  · have hi : i < 13 := (List.getElem?_eq_some_iff.mp hq).1
    have e : cRg i = q := by
      show cR.getD i ("", 0, "", 0) = q
      rw [List.getD_eq_getElem?_getD, hq]
      rfl
    obtain ⟨h1, h3, h2⟩ := st_r i hi
    rw [e] at h1 h2 h3
    refine vk_R.of (hts _ h1) ?_
    show (Term.string q.1 q.2.1).eval #[Value.ref b] s none [] s = some (.ref (gkF ad adK adV b fm (20 + q.2.2.2)))
    rw [gkF_K h3]
    have h4 := hev _ h3
    rcases h2 with h2 | h2
    · simp only [tmN, h2] at h4
      exact h4
    · obtain ⟨y, y1, y2⟩ := Cond.eq_one (hn _ h2)
      have y3 : some y = some (Value.ref (adK q.2.2.2)) := y1.symm.trans h4
      cases y3
      exact y2
  · have hi : i < 9 := (List.getElem?_eq_some_iff.mp hq).1
    have e : cSg i = q := by
      show cS.getD i ("", []) = q
      rw [List.getD_eq_getElem?_getD, hq]
      rfl
    have h1 := had i hi
    rw [e] at h1
    show va_Z RX10 q.1 "[I" (.ref (gkF ad adK adV b fm i)) _ s s.heap ∧ va_T .int (gkF ad adK adV b fm i) _ _ _ s s.heap
    rw [gkF_s hi]
    exact h1
  · obtain ⟨scr, h1, h2, h3, h4, h5⟩ := hX
    exact ⟨scr, h1, h2, h3, Nat.le_of_eq h4.symm, by rw [h4] <;> rfl, h5, Nat.not_le.mpr hbl⟩
  · exact vk_S_at hvS (fun i hi => ⟨gkF_K hi, gkF_V hi⟩)
