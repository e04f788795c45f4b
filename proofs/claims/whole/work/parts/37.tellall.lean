/-! TELLALL -/
theorem hrR_congr {st st' row : Nat → Int32} {fr : Nat} : ∀ (m c : Nat) (b : Int32), (∀ j, c ≤ j → j < c + m → st j = st' j) → hrR st row fr m c b = hrR st' row fr m c b := by
  intro m
  induction m with
  | zero => intro c b _; rfl
  | succ m ih =>
    intro c b h
    unfold hrR
    rw [h c (by omega) (by omega)]
    exact ih _ _ (fun j h1 h2 => h j (by omega) (by omega))
theorem payR_low {row : Nat → Int32} {p q : Nat} {c : Int32} {j : Nat} (hj : j ≠ 7 + p ∧ j ≠ 7 + q) : payR row p q c j = row j := by
  unfold payR
  split
  · rfl
  · simp only [va_up]
    rw [if_neg (by omega), if_neg (by omega)]
theorem heR_low {bits : Int32} {v te : Nat} {cost : Int32} {j : Nat} (hte : te < 7) (hj : j < 7 ∨ 28 ≤ j) : ∀ (m p : Nat) (x : (Nat → Int32) × (Nat → Int32)), p + m = 7 → (heR bits v te cost m p x).2 j = x.2 j := by
  intro m
  induction m with
  | zero => intro p x _; rfl
  | succ m ih =>
    intro p x hp
    unfold heR
    rw [ih (p + 1) _ (by omega)]
    unfold heS
    split
    · show payR _ p te cost j = _
      rw [payR_low (show j ≠ 7 + p ∧ j ≠ 7 + te by omega)]
      exact vu_o _ _ (by omega)
    · rfl
theorem spV_congr {hi hi' : Nat → Nat → Int32} {f : Nat} {lw : Option Nat} {sz v : Nat} {row : Nat → Int32} {s : Nat → Nat} {fr : Nat} (h1 : hi' (f + 1) = hi (f + 1)) (h2 : hi' (f + 2) = hi (f + 2)) (h3 : hi' (f + 3) = hi (f + 3)) (h4 : ∀ a, lw = some a → hi' (a + 1) = hi (a + 1)) : spV hi' f lw sz v row s fr = spV hi f lw sz v row s fr := by
  have e : bwC hi' f lw sz v row s = bwC hi f lw sz v row s := by
    funext w c x
    unfold bwC
    rw [h2, h3, tkV_congr h4 (fun _ _ _ _ => rfl)]
  unfold spV
  rw [e, h1]
/-- what the teller leaves out -/
def lvO (hi : Nat → Nat → Int32) (f te : Nat) : Int32 := if hi (f + 2) (te * 5 + 3) < hi f 4 then hi (f + 2) (te * 5 + 3) else -1
def seB (row : Nat → Int32) (v : Nat) : Bool := decide ((row 28 >>> (nI v &&& 31)) &&& 1 = 1)
def toB (hi : Nat → Nat → Int32) (f te : Nat) (hold : Bool) (v : Nat) (row : Nat → Int32) : Bool := seB row v && !decide (lvO hi f te = nI v) && (hold || decide (row 31 < hi (f + 1) 2))
abbrev taX : Type := (Nat → Int32) × (Nat → Int32) × Int32
/-- one event is told -/
def taS (hi : Nat → Nat → Int32) (f : Nat) (lw : Option Nat) (sz n : Nat) (s : Nat → Nat) (wi te : Nat) (cost : Int32) (hold : Bool) (v : Nat) (x : taX) : taX :=
  if toB hi f te hold v x.2.1 = true then
    ((heR (hrR (spV hi f lw sz v x.2.1 s wi) x.2.1 wi n 0 0) v te cost 7 0 (x.1, x.2.1)).1,
     va_up (heR (hrR (spV hi f lw sz v x.2.1 s wi) x.2.1 wi n 0 0) v te cost 7 0 (x.1, x.2.1)).2 31 ((heR (hrR (spV hi f lw sz v x.2.1 s wi) x.2.1 wi n 0 0) v te cost 7 0 (x.1, x.2.1)).2 31 + hi (f + 3) (v * 2)),
     x.2.2 + bc (hrR (spV hi f lw sz v x.2.1 s wi) x.2.1 wi n 0 0))
  else x
def taR (hi : Nat → Nat → Int32) (f : Nat) (lw : Option Nat) (sz n : Nat) (s : Nat → Nat) (wi te : Nat) (cost : Int32) (hold : Bool) : Nat → Nat → taX → taX
  | 0, _, x => x
  | m + 1, v, x => taR hi f lw sz n s wi te cost hold m (v + 1) (taS hi f lw sz n s wi te cost hold v x)
/-- what holds while it is told -/
def taI (hi : Nat → Nat → Int32) (r n : Nat) (s : Nat → Nat) (x : taX) (hi' : Nat → Nat → Int32) : Prop := Same (52 :: r :: scr0) hi hi' ∧ hi' 52 = x.1 ∧ hi' r = x.2.1 ∧ ∀ c, c < n → x.2.1 c = nI (s c) ∧ s c < 7
section TELLALL
variable {G : ph_G} {d a r n f dr t sz : Nat} {hi : Nat → Nat → Int32} {hl : Nat → Nat → Int64} {Q : Option Value → ph_H → Prop} {lw : Option Nat}
theorem c_tellAll_loop {ev wi te : Nat} {s : Nat → Nat} {cost : Int32} {hold : Bool} (hf : Fok f) (hs : Sok a r) (hw : Lawk hi lw sz) (hn : n ≤ 7) (hev : ev ≤ 6) (hwi : wi < n) (hte : te < 7) (hc : hi f 3 = nI n) (hc4 : hi f 4 = nI ev) (hc0 : hi (f + 1) 0 = nI wi)
    : ∀ (m v : Nat) (x : taX) (hi' : Nat → Nat → Int32) (x9 x10 : Option Value), v + m = ev → taI hi r n s x hi' → (∀ hi2, taI hi r n s (taR hi f lw sz n s wi te cost hold m v x) hi2 → Q (some (.int (taR hi f lw sz n s wi te cost hold m v x).2.2)) (HP hi2 hl f dr t)) →
    wq G (0, 0) (d + 5) 31 27 [some (.ref 50), some (.ref f), some (.ref a), some (va_rf lw), some (.int cost), some (.int (if hold = true then 1 else 0)), some (.int (nI te)), some (.int x.2.2), some (.int (nI v)), x9, x10] [] (0, 0) (HP hi' hl f dr t) Q := by
  have hr : r ≠ 52 := by rcases hs with ⟨-, rfl⟩ | ⟨-, rfl⟩ | ⟨-, rfl⟩ <;> decide
  have hrs : r ∉ scr0 := hs.scr (Or.inr rfl)
  have hfS : ∀ b, (b = f ∨ b = f + 1 ∨ b = f + 2 ∨ b = f + 3) → b ∉ (52 :: r :: scr0) := by
    rcases hf with rfl | rfl <;> rcases hs with ⟨-, rfl⟩ | ⟨-, rfl⟩ | ⟨-, rfl⟩ <;> rintro b (rfl | rfl | rfl | rfl) <;> decide
  have hlS : ∀ la b, Lok la → (b = la ∨ b = la + 1) → b ∉ (52 :: r :: scr0) := by
    rintro la b hk hb
    rcases hk with rfl | rfl | rfl | rfl | rfl <;> rcases hb with rfl | rfl <;> rcases hs with ⟨-, rfl⟩ | ⟨-, rfl⟩ | ⟨-, rfl⟩ <;> decide
  intro m
  induction m with
  | zero =>
    intro v x hi' x9 x10 hm hI' hQ
    obtain ⟨f1, -⟩ := hf.frt hi' hl f dr t
    have e4 : hI (HP hi' hl f dr t) f 4 = nI ev := by show hi' f 4 = _; rw [hI'.1 f (hfS f (Or.inl rfl))]; exact hc4
    refine wq_iload q31_27 rfl ?_
    refine wq_aload_n q31_29 rfl ?_
    refine wq_getI q31_30 (by first | exact f1 | rfl) rfl ?_
    refine wq_icmp_ge q31_33 (fun c33 => ?_) (fun c33 => ?_)
    · refine wq_iload q31_157 rfl ?_
      refine rI q31_159 rfl ?_
      exact hQ hi' hI'
    · rw [e4, nI_leI (by omega) (by omega)] at c33
      omega
  | succ m ih =>
    intro v x hi' x9 x10 hm hI' hQ
    rw [taR] at hQ
    have hF := fun h => hf.frt h hl f dr t
    have hSc := fun h => hs.scn h hl f dr t
    obtain ⟨f1, -⟩ := hf.frt hi' hl f dr t
    obtain ⟨s1, s2, s3, s4⟩ := hs.scn hi' hl f dr t
    have g0 : hi' f = hi f := hI'.1 f (hfS f (Or.inl rfl))
    have g1 : hi' (f + 1) = hi (f + 1) := hI'.1 _ (hfS _ (Or.inr (Or.inl rfl)))
    have g2 : hi' (f + 2) = hi (f + 2) := hI'.1 _ (hfS _ (Or.inr (Or.inr (Or.inl rfl))))
    have g3 : hi' (f + 3) = hi (f + 3) := hI'.1 _ (hfS _ (Or.inr (Or.inr (Or.inr rfl))))
    have e4 : hI (HP hi' hl f dr t) f 4 = nI ev := by show hi' f 4 = _; rw [g0]; exact hc4
    have er : hI (HP hi' hl f dr t) r = x.2.1 := hI'.2.2.1
    have hw' : Lawk hi' lw sz := fun la ha => by
      obtain ⟨k1, k2, k3⟩ := hw la ha
      exact ⟨k1, by rw [hI'.1 la (hlS la la k1 (Or.inl rfl))]; exact k2, k3⟩
    have next : ∀ (hi2 : Nat → Nat → Int32) (y : taX) (x9 x10 : Option Value), taS hi f lw sz n s wi te cost hold v x = y → taI hi r n s y hi2 →
        wq G (0, 0) (d + 5) 31 151 [some (.ref 50), some (.ref f), some (.ref a), some (va_rf lw), some (.int cost), some (.int (if hold = true then 1 else 0)), some (.int (nI te)), some (.int y.2.2), some (.int (nI v)), x9, x10] [] (0, 0) (HP hi2 hl f dr t) Q := by
      intro hi2 y x9 x10 hy hI2
      subst hy
      refine wq_iinc (ls' := [_, _, _, _, _, _, _, _, _, _, _]) q31_151 rfl rfl ?_
      refine wq_goto q31_154 ?_
      rw [nI_1]
      exact ih (v + 1) _ hi2 _ _ (by omega) hI2 hQ
    have skip : toB hi f te hold v x.2.1 = false → ∀ x9 x10, wq G (0, 0) (d + 5) 31 151 [some (.ref 50), some (.ref f), some (.ref a), some (va_rf lw), some (.int cost), some (.int (if hold = true then 1 else 0)), some (.int (nI te)), some (.int x.2.2), some (.int (nI v)), x9, x10] [] (0, 0) (HP hi' hl f dr t) Q := by
      intro ht x9 x10
      exact next hi' x x9 x10 (by unfold taS; rw [ht]; rfl) hI'
    have doit : toB hi f te hold v x.2.1 = true → ∀ (y9 : Int32) (x10 : Option Value), wq G (0, 0) (d + 5) 31 87 [some (.ref 50), some (.ref f), some (.ref a), some (va_rf lw), some (.int cost), some (.int (if hold = true then 1 else 0)), some (.int (nI te)), some (.int x.2.2), some (.int (nI v)), some (.int y9), x10] [] (0, 0) (HP hi' hl f dr t) Q := by
      intro ht y9 x10
      have gsp : spV hi' f lw sz v x.2.1 s wi = spV hi f lw sz v x.2.1 s wi := spV_congr g1 g2 g3 (fun la ha => hI'.1 _ (hlS la _ (hw la ha).1 (Or.inr rfl)))
      have after : ∀ (hi2 : Nat → Nat → Int32) (x10 : Option Value), Same scr0 hi' hi2 → (∀ c, c < n → hi2 51 c = spV hi' f lw sz v (hi' r) s wi c) →
          wq G (0, 0) (d + 5) 31 100 [some (.ref 50), some (.ref f), some (.ref a), some (va_rf lw), some (.int cost), some (.int (if hold = true then 1 else 0)), some (.int (nI te)), some (.int x.2.2), some (.int (nI v)), some (.int y9), x10] [] (0, 0) (HP hi2 hl f dr t) Q := by
        intro hi2 x10 hS2 hst
        obtain ⟨f1, -⟩ := hf.frt hi2 hl f dr t
        obtain ⟨s1, s2, s3, s4⟩ := hs.scn hi2 hl f dr t
        have k0 : hi2 f = hi f := (hS2 f (hf.scr (Or.inl rfl))).trans g0
        have k1 : hi2 (f + 1) = hi (f + 1) := (hS2 _ (hf.scr (Or.inr (Or.inl rfl)))).trans g1
        have k3 : hi2 (f + 3) = hi (f + 3) := (hS2 _ (hf.scr (Or.inr (Or.inr (Or.inr rfl))))).trans g3
        have kr : hi2 r = x.2.1 := (hS2 r hrs).trans hI'.2.2.1
        have k52 : hi2 52 = x.1 := (hS2 52 (by decide)).trans hI'.2.1
        have ew : hI (HP hi2 hl f dr t) (f + 1) 0 = nI wi := by show hi2 (f + 1) 0 = _; rw [k1]; exact hc0
        have hb : hrR (hi2 51) (hi2 r) wi n 0 0 = hrR (spV hi f lw sz v x.2.1 s wi) x.2.1 wi n 0 0 := by
          rw [kr]
          refine hrR_congr n 0 0 (fun j _ hj => ?_)
          rw [hst j (by omega), hI'.2.2.1, gsp]
        refine wq_aload_n q31_100 rfl ?_
        refine wq_aload_n q31_101 rfl ?_
        refine wq_aload_n q31_102 rfl ?_
        refine wq_aload_n q31_103 rfl ?_
        refine cV (As := []) q31_104 m_16 rfl rfl (by first | exact f1 | rfl) ⟨by decide, rfl⟩ rfl (c_window (by exact hF _) ?_)
        rw [ew]
        refine cV (As := [_, _, _]) q31_107 m_30 rfl rfl rfl ⟨by decide, rfl⟩ rfl (c_hearers hf hs hn (by omega) (by rw [k0]; exact hc) ?_)
        refine wq_istore (ls' := [_, _, _, _, _, _, _, _, _, _, _]) q31_110 rfl ?_
        refine wq_aload_n q31_112 rfl ?_
        refine wq_aload_n q31_113 rfl ?_
        refine wq_iload q31_114 rfl ?_
        refine wq_iload q31_116 rfl ?_
        refine wq_iload q31_118 rfl ?_
        refine wq_iload q31_120 rfl ?_
        rw [hb]
        generalize hbits : hrR (spV hi f lw sz v x.2.1 s wi) x.2.1 wi n 0 0 = bits
        refine cV (As := [_, _, _, _, _]) q31_122 m_32 rfl rfl rfl ⟨by decide, rfl⟩ rfl (c_hear2 hs hte ?_)
        refine wq_iload q31_125 rfl ?_
        refine wq_iload q31_127 rfl ?_
        refine cS' (As := [_]) q31_129 m_295 rfl rfl rfl (c_bitCount ?_)
        refine wq_iadd q31_132 ?_
        refine wq_istore (ls' := [_, _, _, _, _, _, _, _, _, _, _]) q31_133 rfl ?_
        rw [kr, k52]
        have kr2 : ∀ F F', hI (HP (upC (upC hi2 52 F) r F') hl f dr t) r = F' := fun F F' => upC_s _ _ _
        refine wq_aload_n q31_135 rfl ?_
        refine wq_getR q31_136 (by first | exact s1 | exact s2 | exact s3 | rfl) rfl (by first | exact s1 | exact s2 | exact s3 | rfl) ?_
        refine wq_bipush q31_139 ?_
        refine wq_dup2 q31_141 rfl rfl ?_
        refine aI q31_142 (by first | exact s1 | exact s2 | exact s3 | rfl) (rfl) (by decide) (by first | decide | omega) ?_
        refine wq_aload_n q31_143 rfl ?_
        refine wq_iload q31_144 rfl ?_
        rw [kr2]
        refine cV (As := [_]) q31_146 m_25 rfl rfl (by first | exact f1 | rfl) ⟨by decide, rfl⟩ rfl (c_knocks (by exact hF _) (by omega) ?_)
        refine wq_iadd q31_149 ?_
        have k3' : ∀ F F', hI (HP (upC (upC hi2 52 F) r F') hl f dr t) (f + 3) = hi (f + 3) := by
          intro F F'
          show upC (upC hi2 52 F) r F' (f + 3) = _
          have hz := hfS (f + 3) (Or.inr (Or.inr (Or.inr rfl)))
          rw [upC_o _ _ (fun z => hz (by rw [z]; exact List.mem_cons_of_mem _ List.mem_cons_self)), upC_o _ _ (fun z => hz (by rw [z]; exact List.mem_cons_self))]
          exact k3
        rw [k3']
        refine sI q31_150 (by first | exact s1 | exact s2 | exact s3 | exact s4 | rfl) (rfl) (by decide) (by first | decide | omega) (by first | exact s1 | exact s2 | exact s3 | exact s4 | rfl) ?_
        rw [stI_C, kr2, hpC, upC_C]
        refine next _ ((heR bits v te cost 7 0 (x.1, x.2.1)).1, va_up (heR bits v te cost 7 0 (x.1, x.2.1)).2 31 ((heR bits v te cost 7 0 (x.1, x.2.1)).2 31 + hi (f + 3) (v * 2)), x.2.2 + bc bits) _ _ (by unfold taS; rw [if_pos ht, hbits]) ⟨?_, ?_, upC_s _ _ _, fun c hc' => ?_⟩
        · intro b hb
          have hb1 : b ≠ 52 := fun z => hb (by rw [z]; exact List.mem_cons_self)
          have hb2 : b ≠ r := fun z => hb (by rw [z]; exact List.mem_cons_of_mem _ List.mem_cons_self)
          rw [upC_o _ _ hb2, upC_o _ _ hb1, hS2 b (fun z => hb (List.mem_cons_of_mem _ (List.mem_cons_of_mem _ z)))]
          exact hI'.1 b hb
        · rw [upC_o _ _ hr.symm, upC_s]
        · show va_up (heR bits v te cost 7 0 (x.1, x.2.1)).2 31 _ c = _ ∧ _
          rw [vu_o _ _ (by omega), heR_low hte (Or.inl (by omega)) 7 0 _ (by omega)]
          exact hI'.2.2.2 c hc'
      have ew : hI (HP hi' hl f dr t) (f + 1) 0 = nI wi := by show hi' (f + 1) 0 = _; rw [g1]; exact hc0
      have hsit' : ∀ c, c < n → hi' r c = nI (s c) ∧ s c < 7 := fun c hc' => by rw [hI'.2.2.1]; exact hI'.2.2.2 c hc'
      cases hlw : lw with
      | none =>
        subst hlw
        refine wq_aload_n q31_87 rfl ?_
        refine wq_aload_n q31_88 rfl ?_
        refine wq_aload_n q31_89 rfl ?_
        refine wq_aload_nN q31_90 rfl ?_
        refine wq_iload q31_91 rfl ?_
        refine wq_aload_n q31_93 rfl ?_
        refine cV (As := []) q31_94 m_16 rfl rfl (by first | exact f1 | rfl) ⟨by decide, rfl⟩ rfl (c_window (by exact hF _) ?_)
        rw [ew]
        refine cV (As := [_, _, _, _, _]) q31_97 m_28 rfl rfl rfl ⟨by decide, rfl⟩ rfl (c_spread (lw := none) (s := s) hf hs hw' hn (by omega) hwi (by rw [g0]; exact hc) hsit' (fun hi2 h1 h2 => ?_))
        exact after hi2 _ h1 h2
      | some la =>
        subst hlw
        refine wq_aload_n q31_87 rfl ?_
        refine wq_aload_n q31_88 rfl ?_
        refine wq_aload_n q31_89 rfl ?_
        refine wq_aload_n q31_90 rfl ?_
        refine wq_iload q31_91 rfl ?_
        refine wq_aload_n q31_93 rfl ?_
        refine cV (As := []) q31_94 m_16 rfl rfl (by first | exact f1 | rfl) ⟨by decide, rfl⟩ rfl (c_window (by exact hF _) ?_)
        rw [ew]
        refine cV (As := [_, _, _, _, _]) q31_97 m_28 rfl rfl rfl ⟨by decide, rfl⟩ rfl (c_spread (lw := some la) (s := s) hf hs hw' hn (by omega) hwi (by rw [g0]; exact hc) hsit' (fun hi2 h1 h2 => ?_))
        exact after hi2 _ h1 h2
    refine wq_iload q31_27 rfl ?_
    refine wq_aload_n q31_29 rfl ?_
    refine wq_getI q31_30 (by first | exact f1 | rfl) rfl ?_
    refine wq_icmp_ge q31_33 (fun c33 => ?_) (fun c33 => ?_)
    · rw [e4, nI_leI (by omega) (by omega)] at c33
      omega
    · refine wq_aload_n q31_36 rfl ?_
      refine wq_iload q31_37 rfl ?_
      refine cV (As := [_]) q31_39 m_56 rfl rfl (by first | exact s1 | rfl) ⟨by decide, rfl⟩ rfl (c_sees (by exact hSc _) ?_)
      refine wq_if_eq q31_42 (fun c42 => ?_) (fun c42 => ?_)
      · refine wq_iconst q31_60 ?_
        refine wq_istore (ls' := [_, _, _, _, _, _, _, _, _, _, _]) q31_61 rfl ?_
        refine wq_iload q31_63 rfl ?_
        refine wq_if_eq q31_65 (fun c65 => ?_) (fun c65 => ?_)
        · refine skip ?_ _ _
          rw [er] at c42
          by_cases hz : (x.2.1 28 >>> (nI v &&& 31)) &&& 1 = 1
          · rw [if_pos hz] at c42
            exact absurd c42 (by decide)
          · simp [toB, seB, hz]
        · exact absurd rfl c65
      · refine wq_aload_n q31_45 rfl ?_
        refine wq_iload q31_46 rfl ?_
        refine cV (As := [_]) q31_48 m_23 rfl rfl (by first | exact f1 | rfl) ⟨by decide, rfl⟩ rfl (c_leavesOut (by exact hF _) (by omega) ?_)
        refine wq_iload q31_51 rfl ?_
        refine wq_icmp_eq q31_53 (fun c53 => ?_) (fun c53 => ?_)
        · refine wq_iconst q31_60 ?_
          refine wq_istore (ls' := [_, _, _, _, _, _, _, _, _, _, _]) q31_61 rfl ?_
          refine wq_iload q31_63 rfl ?_
          refine wq_if_eq q31_65 (fun c65 => ?_) (fun c65 => ?_)
          · refine skip ?_ _ _
            have c53' : lvO hi f te = nI v := by
              have : (if hi' (f + 2) (te * 5 + 3) < hi' f 4 then hi' (f + 2) (te * 5 + 3) else -1) = nI v := c53
              rw [g0, g2] at this
              exact this
            simp [toB, c53']
          · exact absurd rfl c65
        · have c53' : ¬ lvO hi f te = nI v := by
            have : ¬ (if hi' (f + 2) (te * 5 + 3) < hi' f 4 then hi' (f + 2) (te * 5 + 3) else -1) = nI v := c53
            rw [g0, g2] at this
            exact this
          have hse : seB x.2.1 v = true := by
            rw [er] at c42
            by_cases hz : (x.2.1 28 >>> (nI v &&& 31)) &&& 1 = 1
            · simp [seB, hz]
            · rw [if_neg hz] at c42
              exact absurd rfl c42
          refine wq_iconst q31_56 ?_
          refine wq_goto q31_57 ?_
          refine wq_istore (ls' := [_, _, _, _, _, _, _, _, _, _, _]) q31_61 rfl ?_
          refine wq_iload q31_63 rfl ?_
          refine wq_if_eq q31_65 (fun c65 => ?_) (fun c65 => ?_)
          · exact absurd c65 (by decide)
          · refine wq_iload q31_68 rfl ?_
            refine wq_if_ne q31_70 (fun c70 => ?_) (fun c70 => ?_)
            · cases hold with
              | true => exact doit (by simp [toB, hse, c53']) _ _
              | false => exact absurd rfl c70
            · cases hold with
              | true => exact absurd c70 (by decide)
              | false =>
                refine wq_aload_n q31_73 rfl ?_
                refine wq_getR q31_74 (by first | exact s1 | exact s2 | exact s3 | exact f1 | rfl) rfl (by first | exact s1 | exact s2 | exact s3 | exact f1 | rfl) ?_
                refine wq_bipush q31_77 ?_
                refine aI q31_79 (by first | exact s1 | exact s2 | exact s3 | exact f1 | rfl) (rfl) (by decide) (by first | decide | omega) ?_
                refine wq_aload_n q31_80 rfl ?_
                refine cV (As := []) q31_81 m_18 rfl rfl (by first | exact s1 | exact s2 | exact s3 | exact f1 | rfl) ⟨by decide, rfl⟩ rfl (c_worn (by exact hF _) ?_)
                refine wq_icmp_ge q31_84 (fun c84 => ?_) (fun c84 => ?_)
                · refine skip ?_ _ _
                  rw [er] at c84
                  have : hi (f + 1) 2 ≤ x.2.1 31 := by rw [← g1]; exact c84
                  simp [toB, Int32.not_lt.mpr this]
                · refine doit ?_ _ _
                  rw [er] at c84
                  have : x.2.1 31 < hi (f + 1) 2 := by rw [← g1]; exact Int32.not_le.mp c84
                  simp [toB, hse, c53', this]
theorem c_tellAll {ev wi : Nat} {s : Nat → Nat} {cost : Int32} {hold : Bool} (hf : Fok f) (hs : Sok a r) (hw : Lawk hi lw sz) (hn : n ≤ 7) (hev : ev ≤ 6) (hwi : wi < n) (hc : hi f 3 = nI n) (hc4 : hi f 4 = nI ev) (hc0 : hi (f + 1) 0 = nI wi) (hsit : ∀ c, c < n → hi r c = nI (s c) ∧ s c < 7)
    (hQ : ∀ hi2, taI hi r n s (taR hi f lw sz n s wi (s wi) cost hold ev 0 (fun i => if i < 7 then 0 else hi 52 i, hi r, 0)) hi2 → Q (some (.int (taR hi f lw sz n s wi (s wi) cost hold ev 0 (fun i => if i < 7 then 0 else hi 52 i, hi r, 0)).2.2)) (HP hi2 hl f dr t)) :
    Ct G (0, 0) (d + 5) 31 [.ref 50, .ref f, .ref a, va_rf lw, .int cost, .int (if hold = true then 1 else 0)] (HP hi hl f dr t) Q := by
  have hr : r ≠ 52 := by rcases hs with ⟨-, rfl⟩ | ⟨-, rfl⟩ | ⟨-, rfl⟩ <;> decide
  obtain ⟨f1, -⟩ := hf.frt hi hl f dr t
  obtain ⟨s1, s2, s3, s4⟩ := hs.scn hi hl f dr t
  have ew : hI (HP hi hl f dr t) (f + 1) 0 = nI wi := hc0
  have et : hI (HP hi hl f dr t) r wi = nI (s wi) := (hsit wi hwi).1
  refine Ct_of (ls := [some (.ref 50), some (.ref f), some (.ref a), some (va_rf lw), some (.int cost), some (.int (if hold = true then 1 else 0)), none, none, none, none, none]) m_31.1.2.2.1 (by cases lw <;> exact Nat.le_of_ble_eq_true rfl) (by cases lw <;> rfl) ?_
  refine wq_aload_n q31_0 rfl ?_
  refine wq_getR q31_1 (by first | exact s1 | exact s2 | exact f1 | rfl) rfl (by first | exact s1 | exact s2 | exact f1 | rfl) ?_
  refine wq_iconst q31_4 ?_
  refine wq_aload_n q31_5 rfl ?_
  refine cV (As := []) q31_6 m_16 rfl rfl (by first | exact s1 | exact s2 | exact f1 | rfl) ⟨by decide, rfl⟩ rfl (c_window (by exact hf.frt hi hl f dr t) ?_)
  rw [ew]
  refine wq_iadd q31_9 ?_
  refine aI q31_10 (by first | exact s3 | rfl) ((by rw [show (0 : Int32) = nI 0 from rfl, nI_add, Nat.zero_add])) (by omega) (by first | decide | omega) ?_
  rw [et]
  refine wq_istore (ls' := [_, _, _, _, _, _, _, _, _, _, _]) q31_11 rfl ?_
  refine wq_iconst q31_13 ?_
  refine wq_istore (ls' := [_, _, _, _, _, _, _, _, _, _, _]) q31_14 rfl ?_
  refine wq_aload_n q31_16 rfl ?_
  refine wq_getR q31_17 rfl rfl rfl ?_
  refine wq_iconst q31_20 ?_
  refine cS' (As := [_, _]) q31_21 m_322 rfl rfl rfl (c_fill (n := 7) rfl (by decide) rfl ?_)
  refine wq_iconst q31_24 ?_
  refine wq_istore (ls' := [_, _, _, _, _, _, _, _, _, _, _]) q31_25 rfl ?_
  refine c_tellAll_loop (cost := cost) (hold := hold) hf hs hw hn hev hwi (hsit wi hwi).2 hc hc4 hc0 ev 0 (fun i => if i < 7 then 0 else hi 52 i, hi r, 0) _ none none (by omega) ⟨?_, ?_, ?_, hsit⟩ hQ
  · intro b hb
    exact upC_o _ _ (fun z => hb (by rw [z]; exact List.mem_cons_self))
  · exact upC_s _ _ _
  · exact upC_o _ _ hr
end TELLALL
