theorem q166_131 : qD 166 131 (.lload_n 2) 1 132 ∧ ((2 : Fin 4) : Nat) = 2 := by decide +kernel
theorem q166_132 : qD 166 132 (.lreturn) 1 133 ∧ mR 166 = some .long := by decide +kernel
theorem q167_0 : qD 167 0 (.lload_n 2) 1 1 ∧ ((2 : Fin 4) : Nat) = 2 := by decide +kernel
theorem q167_1 : qD 167 1 (.lconst 0) 1 2 ∧ Int64.ofNat ((0 : Fin 2) : Nat) = 0 := by decide +kernel
theorem q167_2 : qD 167 2 (.lcmp) 1 3 := by decide +kernel
theorem q167_3 : qJ 167 3 (.ifCond .gt 5) 6 (5) 8 := by decide +kernel
theorem q167_6 : qD 167 6 (.iconst (-1)) 1 7 ∧ Int32.ofInt (-1) = (-1 : Int32) := by decide +kernel
theorem q167_7 : qD 167 7 (.ireturn) 1 8 ∧ mR 167 = some .int := by decide +kernel
theorem q167_8 : qD 167 8 (.lload_n 0) 1 9 ∧ ((0 : Fin 4) : Nat) = 0 := by decide +kernel
theorem q167_9 : qD 167 9 (.lload_n 2) 1 10 ∧ ((2 : Fin 4) : Nat) = 2 := by decide +kernel
theorem q167_10 : qD 167 10 (.lcmp) 1 11 := by decide +kernel
theorem q167_11 : qJ 167 11 (.ifCond .lt 7) 14 (7) 18 := by decide +kernel
theorem q167_14 : qD 167 14 (.ldc_w 416) 3 17 ∧ inG 1181 (.constant (mN 167).cls 416 (1000000)) := by decide +kernel
theorem q167_17 : qD 167 17 (.ireturn) 1 18 ∧ mR 167 = some .int := by decide +kernel
theorem q167_18 : qD 167 18 (.iconst 0) 1 19 ∧ Int32.ofInt (0) = (0 : Int32) := by decide +kernel
theorem q167_19 : qD 167 19 (.istore 4) 2 21 ∧ 4 < mL 167 := by decide +kernel
theorem q167_21 : qD 167 21 (.lload_n 0) 1 22 ∧ ((0 : Fin 4) : Nat) = 0 := by decide +kernel
theorem q167_22 : qD 167 22 (.lstore 5) 2 24 ∧ 5 + 1 < mL 167 := by decide +kernel
theorem q167_24 : qD 167 24 (.iconst 0) 1 25 ∧ Int32.ofInt (0) = (0 : Int32) := by decide +kernel
theorem q167_25 : qD 167 25 (.istore 7) 2 27 ∧ 7 < mL 167 := by decide +kernel
theorem q167_27 : qD 167 27 (.iload 7) 2 29 := by decide +kernel
theorem q167_29 : qD 167 29 (.bipush 6) 2 31 ∧ (Int8.ofInt (6)).toInt32 = (6 : Int32) := by decide +kernel
theorem q167_31 : qJ 167 31 (.if_icmp .ge 36) 34 (36) 67 := by decide +kernel
theorem q167_34 : qD 167 34 (.lload 5) 2 36 := by decide +kernel
theorem q167_36 : qD 167 36 (.ldc2_w 313) 3 39 ∧ inG 939 (.constantLong (mN 167).cls 313 (10)) := by decide +kernel
theorem q167_39 : qD 167 39 (.lmul) 1 40 := by decide +kernel
theorem q167_40 : qD 167 40 (.lstore 5) 2 42 ∧ 5 + 1 < mL 167 := by decide +kernel
theorem q167_42 : qD 167 42 (.bipush 10) 2 44 ∧ (Int8.ofInt (10)).toInt32 = (10 : Int32) := by decide +kernel
theorem q167_44 : qD 167 44 (.iload 4) 2 46 := by decide +kernel
theorem q167_46 : qD 167 46 (.imul) 1 47 := by decide +kernel
theorem q167_47 : qD 167 47 (.lload 5) 2 49 := by decide +kernel
theorem q167_49 : qD 167 49 (.lload_n 2) 1 50 ∧ ((2 : Fin 4) : Nat) = 2 := by decide +kernel
theorem q167_50 : qD 167 50 (.ldiv) 1 51 := by decide +kernel
theorem q167_51 : qD 167 51 (.l2i) 1 52 := by decide +kernel
theorem q167_52 : qD 167 52 (.iadd) 1 53 := by decide +kernel
theorem q167_53 : qD 167 53 (.istore 4) 2 55 ∧ 4 < mL 167 := by decide +kernel
theorem q167_55 : qD 167 55 (.lload 5) 2 57 := by decide +kernel
theorem q167_57 : qD 167 57 (.lload_n 2) 1 58 ∧ ((2 : Fin 4) : Nat) = 2 := by decide +kernel
theorem q167_58 : qD 167 58 (.lrem) 1 59 := by decide +kernel
theorem q167_59 : qD 167 59 (.lstore 5) 2 61 ∧ 5 + 1 < mL 167 := by decide +kernel
theorem q167_61 : qD 167 61 (.iinc 7 1) 3 64 ∧ 7 < mL 167 ∧ Int32.ofInt (1) = (1 : Int32) := by decide +kernel
theorem q167_64 : qJ 167 64 (.goto (-37)) 67 (-37) 27 := by decide +kernel
theorem q167_67 : qD 167 67 (.iload 4) 2 69 := by decide +kernel
theorem q167_69 : qD 167 69 (.ireturn) 1 70 ∧ mR 167 = some .int := by decide +kernel
