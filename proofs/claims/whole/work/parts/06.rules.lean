theorem ph_ldcwS {p : Program} {l : Launch} {e : Env} {R : Room} {s : State} {m : MethodId} {args : Array Value} {below : List Frame} {meth : Method} {c : Code} {H : Heap} {locs : List Loc} {cells slots : Nat} {Q : State → Prop} {cc : ByteArray} {pc : Nat} {ls : Array Slot} {rest : List Value} (hexec : p.tables.exec = Jvm.exec) (hb : c.code = cc) {own tx : String} {index q : Nat} (hown : s.vm.findClass own = some m.cls) (hZ : vk_R own index tx q s) (hdg : decode cc pc = .ok (.ldc_w index, 3))
    (k : W p l e R s m args below meth c H locs cells slots Q (F0 m (pc + 3) ls (.ref q :: rest))) : W p l e R s m args below meth c H locs cells slots Q (F0 m pc ls rest) := by
  intro T hT X
  obtain ⟨t, a1, b1⟩ := k T hT X
  refine ⟨t, ?_, b1⟩
  obtain ⟨k, cf, i, a', hk, hcf, hcp, -, hr, hev'⟩ := Cond.stringRef_spec hown hZ.1
  cases hZ.2.symm.trans hev'
  obtain ⟨k', hk', he⟩ := X.warmed.alike.2.2 _ _ hk
  have hr' : k'.resolved[index]? = some (some (.string q)) := by
    rcases X.warmed.entry hk hk' index with h | ⟨h, -⟩
    · rw [h]; exact hr
    · rw [hr] at h; cases h
  have hdg' : decode c.code (F0 m pc ls rest).pc = .ok (.ldc_w index, 3) := by rw [hb]; exact hdg
  jvm_step X.here [hexec, hdg', ldc_w.wp_string (e := e) (s := T) (f := F0 m pc ls rest) X.here.top hk' (by rw [he]; exact hcf) hcp hr']
  exact a1
section RULES
variable {G : ph_G} {B : Nat × Nat} {d k pc npc : Nat} {ls ls' : List (Option Value)} {st : List Value} {u : Nat × Nat} {h : ph_H} {Q : Option Value → ph_H → Prop}
abbrev qD (k pc : Nat) (i : Instr) (len npc : Nat) : Prop := decode (mC k) pc = .ok (i, len) ∧ pc + len = npc
abbrev qJ (k pc : Nat) (i : Instr) (npc : Nat) (off : Int) (tgt : Nat) : Prop := decode (mC k) pc = .ok (i, 3) ∧ pc + 3 = npc ∧ (pc : Int) + off = (tgt : Int)
theorem wq_iconst {n : Int} {v : Int32} (q : qD k pc (.iconst n) 1 npc ∧ Int32.ofInt n = v) (kk : wq G B d k npc ls (.int v :: st) u h Q) : wq G B d k pc ls st u h Q := by
  intro p e R s m args below meth c H locs Ls hC hW hS hL
  obtain ⟨⟨q1, rfl⟩, q2⟩ := q
  exact lv_iconst hC.1 hC.2.1 q1 q2 (kk p e R s m args below meth c H locs Ls hC hW hS hL)
theorem wq_bipush {n : Int} {v : Int32} (q : qD k pc (.bipush n) 2 npc ∧ (Int8.ofInt n).toInt32 = v) (kk : wq G B d k npc ls (.int v :: st) u h Q) : wq G B d k pc ls st u h Q := by
  intro p e R s m args below meth c H locs Ls hC hW hS hL
  obtain ⟨⟨q1, rfl⟩, q2⟩ := q
  exact lv_bipush hC.1 hC.2.1 q1 q2 (kk p e R s m args below meth c H locs Ls hC hW hS hL)
theorem wq_sipush {n : Int} {v : Int32} (q : qD k pc (.sipush n) 3 npc ∧ (Int16.ofInt n).toInt32 = v) (kk : wq G B d k npc ls (.int v :: st) u h Q) : wq G B d k pc ls st u h Q := by
  intro p e R s m args below meth c H locs Ls hC hW hS hL
  obtain ⟨⟨q1, rfl⟩, q2⟩ := q
  exact lv_sipush hC.1 hC.2.1 q1 q2 (kk p e R s m args below meth c H locs Ls hC hW hS hL)
theorem wq_lconst {n : Fin 2} {v : Int64} (q : qD k pc (.lconst n) 1 npc ∧ Int64.ofNat (n : Nat) = v) (kk : wq G B d k npc ls (.long v :: st) u h Q) : wq G B d k pc ls st u h Q := by
  intro p e R s m args below meth c H locs Ls hC hW hS hL
  obtain ⟨⟨q1, rfl⟩, q2⟩ := q
  exact lv_lconst hC.1 hC.2.1 q1 q2 (kk p e R s m args below meth c H locs Ls hC hW hS hL)
theorem wq_null  (q : qD k pc .aconst_null 1 npc) (kk : wq G B d k npc ls (.null :: st) u h Q) : wq G B d k pc ls st u h Q := by
  intro p e R s m args below meth c H locs Ls hC hW hS hL
  obtain ⟨q1, rfl⟩ := q
  exact lv_null hC.1 hC.2.1 q1 (kk p e R s m args below meth c H locs Ls hC hW hS hL)
theorem wq_ldc {x wi : Nat} {v : Int32} (q : qD k pc (.ldc x) 2 npc ∧ inG wi (.constant (mN k).cls x v)) (kk : wq G B d k npc ls (.int v :: st) u h Q) : wq G B d k pc ls st u h Q := by
  intro p e R s m args below meth c H locs Ls hC hW hS hL
  obtain ⟨⟨q1, rfl⟩, q2⟩ := q
  exact lv_ldc hC.1 hC.2.1 hC.2.2.2.1 (hC.2.2.2.2.1 _ (inG_mem q2)) q1 (kk p e R s m args below meth c H locs Ls hC hW hS hL)
theorem wq_ldc_w {x wi : Nat} {v : Int32} (q : qD k pc (.ldc_w x) 3 npc ∧ inG wi (.constant (mN k).cls x v)) (kk : wq G B d k npc ls (.int v :: st) u h Q) : wq G B d k pc ls st u h Q := by
  intro p e R s m args below meth c H locs Ls hC hW hS hL
  obtain ⟨⟨q1, rfl⟩, q2⟩ := q
  exact lv_ldcw hC.1 hC.2.1 hC.2.2.2.1 (hC.2.2.2.2.1 _ (inG_mem q2)) q1 (kk p e R s m args below meth c H locs Ls hC hW hS hL)
theorem wq_ldc2_w {x wi : Nat} {v : Int64} (q : qD k pc (.ldc2_w x) 3 npc ∧ inG wi (.constantLong (mN k).cls x v)) (kk : wq G B d k npc ls (.long v :: st) u h Q) : wq G B d k pc ls st u h Q := by
  intro p e R s m args below meth c H locs Ls hC hW hS hL
  obtain ⟨⟨q1, rfl⟩, q2⟩ := q
  exact lv_ldc2 hC.1 hC.2.1 hC.2.2.2.1 (hC.2.2.2.2.1 _ (inG_mem q2)) q1 (kk p e R s m args below meth c H locs Ls hC hW hS hL)
theorem ph_adK (G : ph_G) (i : Nat) : ph_ad G (1000 + i) = gK G i := by
  unfold ph_ad
  rw [if_neg (by omega), Nat.add_sub_cancel_left]
theorem wq_ldcS {x j i : Nat} {tx : String} (q : qD k pc (.ldc x) 2 npc ∧ cR[j]? = some ((mN k).cls, x, tx, i)) (kk : wq G B d k npc ls (.ref (1020 + i) :: st) u h Q) : wq G B d k pc ls st u h Q := by
  intro p e R s m args below meth c H locs Ls hC hW hS hL
  obtain ⟨⟨q1, rfl⟩, q2⟩ := q
  have hZ := hC.2.2.2.2.2.2.2.2.1.2.2.1 j _ q2
  have kk := (kk p e R s m args below meth c H locs Ls hC hW hS hL)
  simp only [List.map_cons, cv] at kk
  rw [show 1020 + i = 1000 + (20 + i) by omega, ph_adK] at kk
  exact va_ldcS hC.1 hC.2.1 hC.2.2.2.1 hZ q1 kk
theorem wq_ldcwS {x j i : Nat} {tx : String} (q : qD k pc (.ldc_w x) 3 npc ∧ cR[j]? = some ((mN k).cls, x, tx, i)) (kk : wq G B d k npc ls (.ref (1020 + i) :: st) u h Q) : wq G B d k pc ls st u h Q := by
  intro p e R s m args below meth c H locs Ls hC hW hS hL
  obtain ⟨⟨q1, rfl⟩, q2⟩ := q
  have hZ := hC.2.2.2.2.2.2.2.2.1.2.2.1 j _ q2
  have kk := (kk p e R s m args below meth c H locs Ls hC hW hS hL)
  simp only [List.map_cons, cv] at kk
  rw [show 1020 + i = 1000 + (20 + i) by omega, ph_adK] at kk
  exact ph_ldcwS hC.1 hC.2.1 hC.2.2.2.1 hZ q1 kk
theorem wq_iadd {x y : Int32} (q : qD k pc .iadd 1 npc) (kk : wq G B d k npc ls (.int (x + y) :: st) u h Q) : wq G B d k pc ls (.int y :: .int x :: st) u h Q := by
  intro p e R s m args below meth c H locs Ls hC hW hS hL
  obtain ⟨q1, rfl⟩ := q
  exact lv_iadd hC.1 hC.2.1 q1 (kk p e R s m args below meth c H locs Ls hC hW hS hL)
theorem wq_isub {x y : Int32} (q : qD k pc .isub 1 npc) (kk : wq G B d k npc ls (.int (x - y) :: st) u h Q) : wq G B d k pc ls (.int y :: .int x :: st) u h Q := by
  intro p e R s m args below meth c H locs Ls hC hW hS hL
  obtain ⟨q1, rfl⟩ := q
  exact lv_isub hC.1 hC.2.1 q1 (kk p e R s m args below meth c H locs Ls hC hW hS hL)
theorem wq_imul {x y : Int32} (q : qD k pc .imul 1 npc) (kk : wq G B d k npc ls (.int (x * y) :: st) u h Q) : wq G B d k pc ls (.int y :: .int x :: st) u h Q := by
  intro p e R s m args below meth c H locs Ls hC hW hS hL
  obtain ⟨q1, rfl⟩ := q
  exact lv_imul hC.1 hC.2.1 q1 (kk p e R s m args below meth c H locs Ls hC hW hS hL)
theorem wq_iand {x y : Int32} (q : qD k pc .iand 1 npc) (kk : wq G B d k npc ls (.int (x &&& y) :: st) u h Q) : wq G B d k pc ls (.int y :: .int x :: st) u h Q := by
  intro p e R s m args below meth c H locs Ls hC hW hS hL
  obtain ⟨q1, rfl⟩ := q
  exact lv_iand hC.1 hC.2.1 q1 (kk p e R s m args below meth c H locs Ls hC hW hS hL)
theorem wq_ior {x y : Int32} (q : qD k pc .ior 1 npc) (kk : wq G B d k npc ls (.int (x ||| y) :: st) u h Q) : wq G B d k pc ls (.int y :: .int x :: st) u h Q := by
  intro p e R s m args below meth c H locs Ls hC hW hS hL
  obtain ⟨q1, rfl⟩ := q
  exact lv_ior hC.1 hC.2.1 q1 (kk p e R s m args below meth c H locs Ls hC hW hS hL)
theorem wq_ixor {x y : Int32} (q : qD k pc .ixor 1 npc) (kk : wq G B d k npc ls (.int (x ^^^ y) :: st) u h Q) : wq G B d k pc ls (.int y :: .int x :: st) u h Q := by
  intro p e R s m args below meth c H locs Ls hC hW hS hL
  obtain ⟨q1, rfl⟩ := q
  exact lv_ixor hC.1 hC.2.1 q1 (kk p e R s m args below meth c H locs Ls hC hW hS hL)
theorem wq_ishl {x y : Int32} (q : qD k pc .ishl 1 npc) (kk : wq G B d k npc ls (.int (x <<< (y &&& 31)) :: st) u h Q) : wq G B d k pc ls (.int y :: .int x :: st) u h Q := by
  intro p e R s m args below meth c H locs Ls hC hW hS hL
  obtain ⟨q1, rfl⟩ := q
  exact lv_ishl hC.1 hC.2.1 q1 (kk p e R s m args below meth c H locs Ls hC hW hS hL)
theorem wq_ishr {x y : Int32} (q : qD k pc .ishr 1 npc) (kk : wq G B d k npc ls (.int (x >>> (y &&& 31)) :: st) u h Q) : wq G B d k pc ls (.int y :: .int x :: st) u h Q := by
  intro p e R s m args below meth c H locs Ls hC hW hS hL
  obtain ⟨q1, rfl⟩ := q
  exact lv_ishr hC.1 hC.2.1 q1 (kk p e R s m args below meth c H locs Ls hC hW hS hL)
theorem wq_iushr {x y : Int32} (q : qD k pc .iushr 1 npc) (kk : wq G B d k npc ls (.int (x.toUInt32 >>> (y.toUInt32 &&& Int32.toUInt32 31)).toInt32 :: st) u h Q) : wq G B d k pc ls (.int y :: .int x :: st) u h Q := by
  intro p e R s m args below meth c H locs Ls hC hW hS hL
  obtain ⟨q1, rfl⟩ := q
  exact lv_iushr hC.1 hC.2.1 q1 rfl (kk p e R s m args below meth c H locs Ls hC hW hS hL)
theorem wq_idiv {x y : Int32} (q : qD k pc .idiv 1 npc) (hne : ¬ y = 0) (kk : wq G B d k npc ls (.int (x / y) :: st) u h Q) : wq G B d k pc ls (.int y :: .int x :: st) u h Q := by
  intro p e R s m args below meth c H locs Ls hC hW hS hL
  obtain ⟨q1, rfl⟩ := q
  exact lv_idiv hC.1 hC.2.1 q1 hne (kk p e R s m args below meth c H locs Ls hC hW hS hL)
theorem wq_irem {x y : Int32} (q : qD k pc .irem 1 npc) (hne : ¬ y = 0) (kk : wq G B d k npc ls (.int (x - x / y * y) :: st) u h Q) : wq G B d k pc ls (.int y :: .int x :: st) u h Q := by
  intro p e R s m args below meth c H locs Ls hC hW hS hL
  obtain ⟨q1, rfl⟩ := q
  exact lv_irem hC.1 hC.2.1 q1 hne (kk p e R s m args below meth c H locs Ls hC hW hS hL)
theorem wq_ineg {x : Int32} (q : qD k pc .ineg 1 npc) (kk : wq G B d k npc ls (.int (0 - x) :: st) u h Q) : wq G B d k pc ls (.int x :: st) u h Q := by
  intro p e R s m args below meth c H locs Ls hC hW hS hL
  obtain ⟨q1, rfl⟩ := q
  exact lv_ineg hC.1 hC.2.1 q1 (kk p e R s m args below meth c H locs Ls hC hW hS hL)
theorem wq_ladd {x y : Int64} (q : qD k pc .ladd 1 npc) (kk : wq G B d k npc ls (.long (x + y) :: st) u h Q) : wq G B d k pc ls (.long y :: .long x :: st) u h Q := by
  intro p e R s m args below meth c H locs Ls hC hW hS hL
  obtain ⟨q1, rfl⟩ := q
  exact lv_ladd hC.1 hC.2.1 q1 (kk p e R s m args below meth c H locs Ls hC hW hS hL)
theorem wq_lsub {x y : Int64} (q : qD k pc .lsub 1 npc) (kk : wq G B d k npc ls (.long (x - y) :: st) u h Q) : wq G B d k pc ls (.long y :: .long x :: st) u h Q := by
  intro p e R s m args below meth c H locs Ls hC hW hS hL
  obtain ⟨q1, rfl⟩ := q
  exact lv_lsub hC.1 hC.2.1 q1 (kk p e R s m args below meth c H locs Ls hC hW hS hL)
theorem wq_lmul {x y : Int64} (q : qD k pc .lmul 1 npc) (kk : wq G B d k npc ls (.long (x * y) :: st) u h Q) : wq G B d k pc ls (.long y :: .long x :: st) u h Q := by
  intro p e R s m args below meth c H locs Ls hC hW hS hL
  obtain ⟨q1, rfl⟩ := q
  exact lv_lmul hC.1 hC.2.1 q1 (kk p e R s m args below meth c H locs Ls hC hW hS hL)
theorem wq_land {x y : Int64} (q : qD k pc .land 1 npc) (kk : wq G B d k npc ls (.long (x &&& y) :: st) u h Q) : wq G B d k pc ls (.long y :: .long x :: st) u h Q := by
  intro p e R s m args below meth c H locs Ls hC hW hS hL
  obtain ⟨q1, rfl⟩ := q
  exact lv_land hC.1 hC.2.1 q1 (kk p e R s m args below meth c H locs Ls hC hW hS hL)
theorem wq_lor {x y : Int64} (q : qD k pc .lor 1 npc) (kk : wq G B d k npc ls (.long (x ||| y) :: st) u h Q) : wq G B d k pc ls (.long y :: .long x :: st) u h Q := by
  intro p e R s m args below meth c H locs Ls hC hW hS hL
  obtain ⟨q1, rfl⟩ := q
  exact lv_lor hC.1 hC.2.1 q1 (kk p e R s m args below meth c H locs Ls hC hW hS hL)
theorem wq_ldiv {x y : Int64} (q : qD k pc .ldiv 1 npc) (hne : ¬ y = 0) (kk : wq G B d k npc ls (.long (x / y) :: st) u h Q) : wq G B d k pc ls (.long y :: .long x :: st) u h Q := by
  intro p e R s m args below meth c H locs Ls hC hW hS hL
  obtain ⟨q1, rfl⟩ := q
  exact lv_ldiv hC.1 hC.2.1 q1 hne (kk p e R s m args below meth c H locs Ls hC hW hS hL)
theorem wq_lrem {x y : Int64} (q : qD k pc .lrem 1 npc) (hne : ¬ y = 0) (kk : wq G B d k npc ls (.long (x - x / y * y) :: st) u h Q) : wq G B d k pc ls (.long y :: .long x :: st) u h Q := by
  intro p e R s m args below meth c H locs Ls hC hW hS hL
  obtain ⟨q1, rfl⟩ := q
  exact lv_lrem hC.1 hC.2.1 q1 hne (kk p e R s m args below meth c H locs Ls hC hW hS hL)
theorem wq_lushr {x : Int64} {y : Int32} (q : qD k pc .lushr 1 npc) (kk : wq G B d k npc ls (.long (x.toUInt64 >>> (y.toInt64.toUInt64 &&& Int64.toUInt64 63)).toInt64 :: st) u h Q) : wq G B d k pc ls (.int y :: .long x :: st) u h Q := by
  intro p e R s m args below meth c H locs Ls hC hW hS hL
  obtain ⟨q1, rfl⟩ := q
  exact lv_lushr hC.1 hC.2.1 q1 rfl (kk p e R s m args below meth c H locs Ls hC hW hS hL)
theorem wq_lshl {x : Int64} {y : Int32} (q : qD k pc .lshl 1 npc) (kk : wq G B d k npc ls (.long (x <<< (y.toInt64 &&& 63)) :: st) u h Q) : wq G B d k pc ls (.int y :: .long x :: st) u h Q := by
  intro p e R s m args below meth c H locs Ls hC hW hS hL
  obtain ⟨q1, rfl⟩ := q
  exact lv_lshl hC.1 hC.2.1 q1 rfl (kk p e R s m args below meth c H locs Ls hC hW hS hL)
theorem wq_lcmp {x y : Int64} (q : qD k pc .lcmp 1 npc) (kk : wq G B d k npc ls (.int (lg_cmp x y) :: st) u h Q) : wq G B d k pc ls (.long y :: .long x :: st) u h Q := by
  intro p e R s m args below meth c H locs Ls hC hW hS hL
  obtain ⟨q1, rfl⟩ := q
  exact W.lcmp hC.1 hC.2.1 q1 (kk p e R s m args below meth c H locs Ls hC hW hS hL)
theorem wq_i2l {x : Int32} (q : qD k pc .i2l 1 npc) (kk : wq G B d k npc ls (.long x.toInt64 :: st) u h Q) : wq G B d k pc ls (.int x :: st) u h Q := by
  intro p e R s m args below meth c H locs Ls hC hW hS hL
  obtain ⟨q1, rfl⟩ := q
  exact lv_i2l hC.1 hC.2.1 q1 rfl (kk p e R s m args below meth c H locs Ls hC hW hS hL)
theorem wq_l2i {x : Int64} (q : qD k pc .l2i 1 npc) (kk : wq G B d k npc ls (.int x.toInt32 :: st) u h Q) : wq G B d k pc ls (.long x :: st) u h Q := by
  intro p e R s m args below meth c H locs Ls hC hW hS hL
  obtain ⟨q1, rfl⟩ := q
  exact lv_l2i hC.1 hC.2.1 q1 rfl (kk p e R s m args below meth c H locs Ls hC hW hS hL)
theorem wq_i2b {x : Int32} (q : qD k pc .i2b 1 npc) (kk : wq G B d k npc ls (.int x.toInt8.toInt32 :: st) u h Q) : wq G B d k pc ls (.int x :: st) u h Q := by
  intro p e R s m args below meth c H locs Ls hC hW hS hL
  obtain ⟨q1, rfl⟩ := q
  exact lv_i2b hC.1 hC.2.1 q1 rfl (kk p e R s m args below meth c H locs Ls hC hW hS hL)
theorem wq_i2c {x : Int32} (q : qD k pc .i2c 1 npc) (kk : wq G B d k npc ls (.int (x.toUInt32 % 65536).toInt32 :: st) u h Q) : wq G B d k pc ls (.int x :: st) u h Q := by
  intro p e R s m args below meth c H locs Ls hC hW hS hL
  obtain ⟨q1, rfl⟩ := q
  exact lv_i2c hC.1 hC.2.1 q1 rfl (kk p e R s m args below meth c H locs Ls hC hW hS hL)
theorem wq_dup {v : Value} (q : qD k pc .dup 1 npc) (hv : v.category = 1) (kk : wq G B d k npc ls (v :: v :: st) u h Q) : wq G B d k pc ls (v :: st) u h Q := by
  intro p e R s m args below meth c H locs Ls hC hW hS hL
  obtain ⟨q1, rfl⟩ := q
  exact lv_dup hC.1 hC.2.1 q1 ((cv_cat G v).trans hv) (kk p e R s m args below meth c H locs Ls hC hW hS hL)
theorem wq_pop {v : Value} (q : qD k pc .pop 1 npc) (hv : v.category = 1) (kk : wq G B d k npc ls st u h Q) : wq G B d k pc ls (v :: st) u h Q := by
  intro p e R s m args below meth c H locs Ls hC hW hS hL
  obtain ⟨q1, rfl⟩ := q
  exact lv_pop hC.1 hC.2.1 q1 ((cv_cat G v).trans hv) (kk p e R s m args below meth c H locs Ls hC hW hS hL)
theorem wq_dup2 {v w : Value} (q : qD k pc .dup2 1 npc) (hv : v.category = 1) (hw : w.category = 1) (kk : wq G B d k npc ls (v :: w :: v :: w :: st) u h Q) : wq G B d k pc ls (v :: w :: st) u h Q := by
  intro p e R s m args below meth c H locs Ls hC hW hS hL
  obtain ⟨q1, rfl⟩ := q
  exact lv_dup2_11 hC.1 hC.2.1 q1 ((cv_cat G v).trans hv) ((cv_cat G w).trans hw) (kk p e R s m args below meth c H locs Ls hC hW hS hL)
theorem wq_dup2l {v : Value} (q : qD k pc .dup2 1 npc) (hv : v.category = 2) (kk : wq G B d k npc ls (v :: v :: st) u h Q) : wq G B d k pc ls (v :: st) u h Q := by
  intro p e R s m args below meth c H locs Ls hC hW hS hL
  obtain ⟨q1, rfl⟩ := q
  exact lv_dup2_2 hC.1 hC.2.1 q1 ((cv_cat G v).trans hv) (kk p e R s m args below meth c H locs Ls hC hW hS hL)
theorem wq_iload_n {j : Fin 4} {i : Nat} {x : Int32} (q : qD k pc (.iload_n j) 1 npc ∧ (j : Nat) = i) (hl : ls[i]? = some (some (.int x))) (kk : wq G B d k npc ls (.int x :: st) u h Q) : wq G B d k pc ls st u h Q := by
  intro p e R s m args below meth c H locs Ls hC hW hS hL
  obtain ⟨⟨q1, rfl⟩, q2⟩ := q
  exact lv_iload_n hC.1 hC.2.1 q1 q2 (hL.2.2 _ _ hl) (kk p e R s m args below meth c H locs Ls hC hW hS hL)
theorem wq_iload {i : Nat} {x : Int32} (q : qD k pc (.iload i) 2 npc) (hl : ls[i]? = some (some (.int x))) (kk : wq G B d k npc ls (.int x :: st) u h Q) : wq G B d k pc ls st u h Q := by
  intro p e R s m args below meth c H locs Ls hC hW hS hL
  obtain ⟨q1, rfl⟩ := q
  exact lv_iload hC.1 hC.2.1 q1 (hL.2.2 _ _ hl) (kk p e R s m args below meth c H locs Ls hC hW hS hL)
theorem wq_lload_n {j : Fin 4} {i : Nat} {x : Int64} (q : qD k pc (.lload_n j) 1 npc ∧ (j : Nat) = i) (hl : ls[i]? = some (some (.long x))) (kk : wq G B d k npc ls (.long x :: st) u h Q) : wq G B d k pc ls st u h Q := by
  intro p e R s m args below meth c H locs Ls hC hW hS hL
  obtain ⟨⟨q1, rfl⟩, q2⟩ := q
  exact lv_lload_n hC.1 hC.2.1 q1 q2 (hL.2.2 _ _ hl) (kk p e R s m args below meth c H locs Ls hC hW hS hL)
theorem wq_lload {i : Nat} {x : Int64} (q : qD k pc (.lload i) 2 npc) (hl : ls[i]? = some (some (.long x))) (kk : wq G B d k npc ls (.long x :: st) u h Q) : wq G B d k pc ls st u h Q := by
  intro p e R s m args below meth c H locs Ls hC hW hS hL
  obtain ⟨q1, rfl⟩ := q
  exact lv_lload hC.1 hC.2.1 q1 (hL.2.2 _ _ hl) (kk p e R s m args below meth c H locs Ls hC hW hS hL)
theorem wq_aload_n {j : Fin 4} {i : Nat} {x : Nat} (q : qD k pc (.aload_n j) 1 npc ∧ (j : Nat) = i) (hl : ls[i]? = some (some (.ref x))) (kk : wq G B d k npc ls (.ref x :: st) u h Q) : wq G B d k pc ls st u h Q := by
  intro p e R s m args below meth c H locs Ls hC hW hS hL
  obtain ⟨⟨q1, rfl⟩, q2⟩ := q
  exact lv_aload_n hC.1 hC.2.1 q1 q2 (hL.2.2 _ _ hl) (kk p e R s m args below meth c H locs Ls hC hW hS hL)
theorem wq_aload {i : Nat} {x : Nat} (q : qD k pc (.aload i) 2 npc) (hl : ls[i]? = some (some (.ref x))) (kk : wq G B d k npc ls (.ref x :: st) u h Q) : wq G B d k pc ls st u h Q := by
  intro p e R s m args below meth c H locs Ls hC hW hS hL
  obtain ⟨q1, rfl⟩ := q
  exact lv_aload hC.1 hC.2.1 q1 (hL.2.2 _ _ hl) (kk p e R s m args below meth c H locs Ls hC hW hS hL)
theorem wq_aload_nN {j : Fin 4} {i : Nat} (q : qD k pc (.aload_n j) 1 npc ∧ (j : Nat) = i) (hl : ls[i]? = some (some .null)) (kk : wq G B d k npc ls (.null :: st) u h Q) : wq G B d k pc ls st u h Q := by
  intro p e R s m args below meth c H locs Ls hC hW hS hL
  obtain ⟨⟨q1, rfl⟩, q2⟩ := q
  exact lv_aload_nN hC.1 hC.2.1 q1 q2 (hL.2.2 _ _ hl) (kk p e R s m args below meth c H locs Ls hC hW hS hL)
theorem wq_aloadN {i : Nat} (q : qD k pc (.aload i) 2 npc) (hl : ls[i]? = some (some .null)) (kk : wq G B d k npc ls (.null :: st) u h Q) : wq G B d k pc ls st u h Q := by
  intro p e R s m args below meth c H locs Ls hC hW hS hL
  obtain ⟨q1, rfl⟩ := q
  exact lv_aloadN hC.1 hC.2.1 q1 (hL.2.2 _ _ hl) (kk p e R s m args below meth c H locs Ls hC hW hS hL)
theorem wq_istore_n {j : Fin 4} {i : Nat} {x : Int32} (q : qD k pc (.istore_n j) 1 npc ∧ (j : Nat) = i ∧ i < mL k) (hl : ph_st1 ls i (.int x) = ls') (kk : wq G B d k npc ls' st u h Q) : wq G B d k pc ls (.int x :: st) u h Q := by
  intro p e R s m args below meth c H locs Ls hC hW hS hL
  obtain ⟨⟨q1, rfl⟩, q2, q3⟩ := q
  exact lv_istore_n hC.1 hC.2.1 q1 q2 hL.has q3 rfl (fun Ls2 h2 => kk p e R s m args below meth c H locs Ls2 hC hW hS (hl ▸ ph_L.st1 h2))
theorem wq_istore {i : Nat} {x : Int32} (q : qD k pc (.istore i) 2 npc ∧ i < mL k) (hl : ph_st1 ls i (.int x) = ls') (kk : wq G B d k npc ls' st u h Q) : wq G B d k pc ls (.int x :: st) u h Q := by
  intro p e R s m args below meth c H locs Ls hC hW hS hL
  obtain ⟨⟨q1, rfl⟩, q3⟩ := q
  exact lv_istore hC.1 hC.2.1 q1 hL.has q3 rfl (fun Ls2 h2 => kk p e R s m args below meth c H locs Ls2 hC hW hS (hl ▸ ph_L.st1 h2))
theorem wq_astore_n {j : Fin 4} {i : Nat} {x : Nat} (q : qD k pc (.astore_n j) 1 npc ∧ (j : Nat) = i ∧ i < mL k) (hl : ph_st1 ls i (.ref x) = ls') (kk : wq G B d k npc ls' st u h Q) : wq G B d k pc ls (.ref x :: st) u h Q := by
  intro p e R s m args below meth c H locs Ls hC hW hS hL
  obtain ⟨⟨q1, rfl⟩, q2, q3⟩ := q
  exact lv_astore_n hC.1 hC.2.1 q1 q2 hL.has q3 rfl (fun Ls2 h2 => kk p e R s m args below meth c H locs Ls2 hC hW hS (hl ▸ ph_L.st1 h2))
theorem wq_astore {i : Nat} {x : Nat} (q : qD k pc (.astore i) 2 npc ∧ i < mL k) (hl : ph_st1 ls i (.ref x) = ls') (kk : wq G B d k npc ls' st u h Q) : wq G B d k pc ls (.ref x :: st) u h Q := by
  intro p e R s m args below meth c H locs Ls hC hW hS hL
  obtain ⟨⟨q1, rfl⟩, q3⟩ := q
  exact lv_astore hC.1 hC.2.1 q1 hL.has q3 rfl (fun Ls2 h2 => kk p e R s m args below meth c H locs Ls2 hC hW hS (hl ▸ ph_L.st1 h2))
theorem wq_lstore_n {j : Fin 4} {i : Nat} {x : Int64} (q : qD k pc (.lstore_n j) 1 npc ∧ (j : Nat) = i ∧ i + 1 < mL k) (hl : ph_st2 ls i (.long x) = ls') (kk : wq G B d k npc ls' st u h Q) : wq G B d k pc ls (.long x :: st) u h Q := by
  intro p e R s m args below meth c H locs Ls hC hW hS hL
  obtain ⟨⟨q1, rfl⟩, q2, q3⟩ := q
  exact lv_lstore_n hC.1 hC.2.1 q1 q2 hL.has q3 rfl (fun Ls2 h2 => kk p e R s m args below meth c H locs Ls2 hC hW hS (hl ▸ ph_L.st2 h2))
theorem wq_lstore {i : Nat} {x : Int64} (q : qD k pc (.lstore i) 2 npc ∧ i + 1 < mL k) (hl : ph_st2 ls i (.long x) = ls') (kk : wq G B d k npc ls' st u h Q) : wq G B d k pc ls (.long x :: st) u h Q := by
  intro p e R s m args below meth c H locs Ls hC hW hS hL
  obtain ⟨⟨q1, rfl⟩, q3⟩ := q
  exact lv_lstore hC.1 hC.2.1 q1 hL.has q3 rfl (fun Ls2 h2 => kk p e R s m args below meth c H locs Ls2 hC hW hS (hl ▸ ph_L.st2 h2))
theorem wq_iinc {i : Nat} {n : Int} {x v : Int32} (q : qD k pc (.iinc i n) 3 npc ∧ i < mL k ∧ Int32.ofInt n = v) (hx : ls[i]? = some (some (.int x))) (hl : ph_st1 ls i (.int (x + v)) = ls') (kk : wq G B d k npc ls' st u h Q) : wq G B d k pc ls st u h Q := by
  intro p e R s m args below meth c H locs Ls hC hW hS hL
  obtain ⟨⟨q1, rfl⟩, q3, q4⟩ := q
  obtain ⟨j, hj⟩ := List.getElem?_of_mem (ph_lv_mem.mpr ⟨_, hx, rfl⟩ : (i, cv G (.int x)) ∈ ph_lv G ls)
  exact lv_iinc (v := x + v) hC.1 hC.2.1 q1 hL.has hj (by rw [q4]) q3 rfl (fun Ls2 h2 => kk p e R s m args below meth c H locs Ls2 hC hW hS (hl ▸ ph_L.st1 h2))
theorem wq_if_eq {off : Int} {tgt : Nat} {x : Int32} (q : qJ k pc (.ifCond .eq off) npc off tgt) (kt : x = 0 → wq G B d k tgt ls st u h Q) (kf : ¬ (x = 0) → wq G B d k npc ls st u h Q) : wq G B d k pc ls (.int x :: st) u h Q := by
  intro p e R s m args below meth c H locs Ls hC hW hS hL
  obtain ⟨q1, rfl, q3⟩ := q
  exact lv_if_eq hC.1 hC.2.1 q1 q3 (fun z => kt z p e R s m args below meth c H locs Ls hC hW hS hL) (fun z => kf z p e R s m args below meth c H locs Ls hC hW hS hL)
theorem wq_if_ne {off : Int} {tgt : Nat} {x : Int32} (q : qJ k pc (.ifCond .ne off) npc off tgt) (kt : ¬ x = 0 → wq G B d k tgt ls st u h Q) (kf : x = 0 → wq G B d k npc ls st u h Q) : wq G B d k pc ls (.int x :: st) u h Q := by
  intro p e R s m args below meth c H locs Ls hC hW hS hL
  obtain ⟨q1, rfl, q3⟩ := q
  exact lv_if_ne hC.1 hC.2.1 q1 q3 (fun z => kt z p e R s m args below meth c H locs Ls hC hW hS hL) (fun z => kf z p e R s m args below meth c H locs Ls hC hW hS hL)
theorem wq_if_lt {off : Int} {tgt : Nat} {x : Int32} (q : qJ k pc (.ifCond .lt off) npc off tgt) (kt : x < 0 → wq G B d k tgt ls st u h Q) (kf : ¬ (x < 0) → wq G B d k npc ls st u h Q) : wq G B d k pc ls (.int x :: st) u h Q := by
  intro p e R s m args below meth c H locs Ls hC hW hS hL
  obtain ⟨q1, rfl, q3⟩ := q
  exact lv_if_lt hC.1 hC.2.1 q1 q3 (fun z => kt z p e R s m args below meth c H locs Ls hC hW hS hL) (fun z => kf z p e R s m args below meth c H locs Ls hC hW hS hL)
theorem wq_if_ge {off : Int} {tgt : Nat} {x : Int32} (q : qJ k pc (.ifCond .ge off) npc off tgt) (kt : 0 ≤ x → wq G B d k tgt ls st u h Q) (kf : ¬ (0 ≤ x) → wq G B d k npc ls st u h Q) : wq G B d k pc ls (.int x :: st) u h Q := by
  intro p e R s m args below meth c H locs Ls hC hW hS hL
  obtain ⟨q1, rfl, q3⟩ := q
  exact lv_if_ge hC.1 hC.2.1 q1 q3 (fun z => kt z p e R s m args below meth c H locs Ls hC hW hS hL) (fun z => kf z p e R s m args below meth c H locs Ls hC hW hS hL)
theorem wq_if_gt {off : Int} {tgt : Nat} {x : Int32} (q : qJ k pc (.ifCond .gt off) npc off tgt) (kt : 0 < x → wq G B d k tgt ls st u h Q) (kf : ¬ (0 < x) → wq G B d k npc ls st u h Q) : wq G B d k pc ls (.int x :: st) u h Q := by
  intro p e R s m args below meth c H locs Ls hC hW hS hL
  obtain ⟨q1, rfl, q3⟩ := q
  exact lv_if_gt hC.1 hC.2.1 q1 q3 (fun z => kt z p e R s m args below meth c H locs Ls hC hW hS hL) (fun z => kf z p e R s m args below meth c H locs Ls hC hW hS hL)
theorem wq_if_le {off : Int} {tgt : Nat} {x : Int32} (q : qJ k pc (.ifCond .le off) npc off tgt) (kt : x ≤ 0 → wq G B d k tgt ls st u h Q) (kf : ¬ (x ≤ 0) → wq G B d k npc ls st u h Q) : wq G B d k pc ls (.int x :: st) u h Q := by
  intro p e R s m args below meth c H locs Ls hC hW hS hL
  obtain ⟨q1, rfl, q3⟩ := q
  exact lv_if_le hC.1 hC.2.1 q1 q3 (fun z => kt z p e R s m args below meth c H locs Ls hC hW hS hL) (fun z => kf z p e R s m args below meth c H locs Ls hC hW hS hL)
theorem wq_icmp_eq {off : Int} {tgt : Nat} {x y : Int32} (q : qJ k pc (.if_icmp .eq off) npc off tgt) (kt : x = y → wq G B d k tgt ls st u h Q) (kf : ¬ (x = y) → wq G B d k npc ls st u h Q) : wq G B d k pc ls (.int y :: .int x :: st) u h Q := by
  intro p e R s m args below meth c H locs Ls hC hW hS hL
  obtain ⟨q1, rfl, q3⟩ := q
  exact lv_icmp_eq hC.1 hC.2.1 q1 q3 (fun z => kt z p e R s m args below meth c H locs Ls hC hW hS hL) (fun z => kf z p e R s m args below meth c H locs Ls hC hW hS hL)
theorem wq_icmp_ne {off : Int} {tgt : Nat} {x y : Int32} (q : qJ k pc (.if_icmp .ne off) npc off tgt) (kt : ¬ x = y → wq G B d k tgt ls st u h Q) (kf : x = y → wq G B d k npc ls st u h Q) : wq G B d k pc ls (.int y :: .int x :: st) u h Q := by
  intro p e R s m args below meth c H locs Ls hC hW hS hL
  obtain ⟨q1, rfl, q3⟩ := q
  exact lv_icmp_ne hC.1 hC.2.1 q1 q3 (fun z => kt z p e R s m args below meth c H locs Ls hC hW hS hL) (fun z => kf z p e R s m args below meth c H locs Ls hC hW hS hL)
theorem wq_icmp_lt {off : Int} {tgt : Nat} {x y : Int32} (q : qJ k pc (.if_icmp .lt off) npc off tgt) (kt : x < y → wq G B d k tgt ls st u h Q) (kf : ¬ (x < y) → wq G B d k npc ls st u h Q) : wq G B d k pc ls (.int y :: .int x :: st) u h Q := by
  intro p e R s m args below meth c H locs Ls hC hW hS hL
  obtain ⟨q1, rfl, q3⟩ := q
  exact lv_icmp_lt hC.1 hC.2.1 q1 q3 (fun z => kt z p e R s m args below meth c H locs Ls hC hW hS hL) (fun z => kf z p e R s m args below meth c H locs Ls hC hW hS hL)
theorem wq_icmp_ge {off : Int} {tgt : Nat} {x y : Int32} (q : qJ k pc (.if_icmp .ge off) npc off tgt) (kt : y ≤ x → wq G B d k tgt ls st u h Q) (kf : ¬ (y ≤ x) → wq G B d k npc ls st u h Q) : wq G B d k pc ls (.int y :: .int x :: st) u h Q := by
  intro p e R s m args below meth c H locs Ls hC hW hS hL
  obtain ⟨q1, rfl, q3⟩ := q
  exact lv_icmp_ge hC.1 hC.2.1 q1 q3 (fun z => kt z p e R s m args below meth c H locs Ls hC hW hS hL) (fun z => kf z p e R s m args below meth c H locs Ls hC hW hS hL)
theorem wq_icmp_gt {off : Int} {tgt : Nat} {x y : Int32} (q : qJ k pc (.if_icmp .gt off) npc off tgt) (kt : y < x → wq G B d k tgt ls st u h Q) (kf : ¬ (y < x) → wq G B d k npc ls st u h Q) : wq G B d k pc ls (.int y :: .int x :: st) u h Q := by
  intro p e R s m args below meth c H locs Ls hC hW hS hL
  obtain ⟨q1, rfl, q3⟩ := q
  exact lv_icmp_gt hC.1 hC.2.1 q1 q3 (fun z => kt z p e R s m args below meth c H locs Ls hC hW hS hL) (fun z => kf z p e R s m args below meth c H locs Ls hC hW hS hL)
theorem wq_icmp_le {off : Int} {tgt : Nat} {x y : Int32} (q : qJ k pc (.if_icmp .le off) npc off tgt) (kt : x ≤ y → wq G B d k tgt ls st u h Q) (kf : ¬ (x ≤ y) → wq G B d k npc ls st u h Q) : wq G B d k pc ls (.int y :: .int x :: st) u h Q := by
  intro p e R s m args below meth c H locs Ls hC hW hS hL
  obtain ⟨q1, rfl, q3⟩ := q
  exact lv_icmp_le hC.1 hC.2.1 q1 q3 (fun z => kt z p e R s m args below meth c H locs Ls hC hW hS hL) (fun z => kf z p e R s m args below meth c H locs Ls hC hW hS hL)
theorem wq_goto {off : Int} {tgt : Nat} (q : qJ k pc (.goto off) npc off tgt) (kk : wq G B d k tgt ls st u h Q) : wq G B d k pc ls st u h Q := by
  intro p e R s m args below meth c H locs Ls hC hW hS hL
  obtain ⟨q1, rfl, q3⟩ := q
  exact lv_goto hC.1 hC.2.1 q1 q3 (kk p e R s m args below meth c H locs Ls hC hW hS hL)
theorem wq_ifnull {off : Int} {tgt a : Nat} (q : qJ k pc (.ifnull off) npc off tgt) (kk : wq G B d k npc ls st u h Q) : wq G B d k pc ls (.ref a :: st) u h Q := by
  intro p e R s m args below meth c H locs Ls hC hW hS hL
  obtain ⟨q1, rfl, q3⟩ := q
  exact lv_ifnull hC.1 hC.2.1 q1 (kk p e R s m args below meth c H locs Ls hC hW hS hL)
theorem wq_ifnullN {off : Int} {tgt : Nat} (q : qJ k pc (.ifnull off) npc off tgt) (kk : wq G B d k tgt ls st u h Q) : wq G B d k pc ls (.null :: st) u h Q := by
  intro p e R s m args below meth c H locs Ls hC hW hS hL
  obtain ⟨q1, rfl, q3⟩ := q
  exact lv_ifnullN hC.1 hC.2.1 q1 q3 (kk p e R s m args below meth c H locs Ls hC hW hS hL)
theorem wq_iret {x : Int32} {ty : FieldType} (q : qD k pc .ireturn 1 npc ∧ mR k = some ty) (hn : narrow ty (.int x) = .int x) (hu : u.1 ≤ B.1 ∧ u.2 ≤ B.2) (hQ : Q (some (.int x)) h) : wq G B d k pc ls [.int x] u h Q := by
  intro p e R s m args below meth c H locs Ls hC hW hS hL
  obtain ⟨q1, q2⟩ := q
  refine W.widen hu.1 hu.2 ?_
  exact W.zret hC.1 hC.2.1 (hC.2.2.2.2.2.1.trans q2) hn (fun t ht _ => ⟨⟨_, _, hQ, rfl, by rw [ht]; exact hW⟩, hS.F ht⟩) (fun z hz => hS.2.2 z hz) q1.1 hC.2.2.2.2.2.2.1
theorem wq_lret {x : Int64} (q : qD k pc .lreturn 1 npc ∧ mR k = some .long) (hu : u.1 ≤ B.1 ∧ u.2 ≤ B.2) (hQ : Q (some (.long x)) h) : wq G B d k pc ls [.long x] u h Q := by
  intro p e R s m args below meth c H locs Ls hC hW hS hL
  obtain ⟨q1, q2⟩ := q
  refine W.widen hu.1 hu.2 ?_
  exact W.lret hC.1 hC.2.1 (hC.2.2.2.2.2.1.trans q2) (fun t ht _ => ⟨⟨_, _, hQ, rfl, by rw [ht]; exact hW⟩, hS.F ht⟩) (fun z hz => hS.2.2 z hz) q1.1 hC.2.2.2.2.2.2.1
theorem wq_vret (q : qD k pc .return_ 1 npc ∧ mR k = none) (hu : u.1 ≤ B.1 ∧ u.2 ≤ B.2) (hQ : Q none h) : wq G B d k pc ls [] u h Q := by
  intro p e R s m args below meth c H locs Ls hC hW hS hL
  obtain ⟨q1, q2⟩ := q
  refine W.widen hu.1 hu.2 ?_
  exact W.vret hC.1 hC.2.1 (hC.2.2.2.2.2.1.trans q2) (fun t ht _ => ⟨⟨_, _, hQ, rfl, by rw [ht]; exact hW⟩, hS.F ht⟩) (fun z hz => hS.2.2 z hz) q1.1 hC.2.2.2.2.2.2.1
theorem wq_aret {v : Value} {C : String} (q : qD k pc .areturn 1 npc ∧ mR k = some (.object C)) (hv : v = .null ∨ ∃ a, v = .ref a) (hu : u.1 ≤ B.1 ∧ u.2 ≤ B.2) (hQ : Q (some v) h) : wq G B d k pc ls [v] u h Q := by
  intro p e R s m args below meth c H locs Ls hC hW hS hL
  obtain ⟨q1, q2⟩ := q
  refine W.widen hu.1 hu.2 ?_
  exact W.aret hC.1 hC.2.1 (hC.2.2.2.2.2.1.trans q2) (Or.inl ⟨_, rfl⟩) (hv.elim (fun z => Or.inl (by rw [z]; rfl)) (fun ⟨a, z⟩ => Or.inr ⟨_, by rw [z]; rfl⟩)) (fun t ht _ => ⟨⟨_, _, hQ, rfl, by rw [ht]; exact hW⟩, hS.F ht⟩) (fun z hz => hS.2.2 z hz) q1.1 hC.2.2.2.2.2.2.1
end RULES
