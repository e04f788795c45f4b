theorem q64_0 : qD 64 0 (.aload_n 0) 1 1 ∧ ((0 : Fin 4) : Nat) = 0 := by decide +kernel
theorem q64_1 : qD 64 1 (.invokespecial 3) 3 4 ∧ inG 149 (.methodLink (mN 64).cls 3 Lib.objectInit) := by decide +kernel
theorem q64_4 : qD 64 4 (.aload_n 0) 1 5 ∧ ((0 : Fin 4) : Nat) = 0 := by decide +kernel
theorem q64_5 : qD 64 5 (.sipush 240) 3 8 ∧ (Int16.ofInt (240)).toInt32 = (240 : Int32) := by decide +kernel
theorem q64_8 : qD 64 8 (.newarray .int) 2 10 ∧ (100 = 100 ∨ 100 = 101 ∨ 100 = 102 ∨ 100 = 103) ∧ newarray.typeOf .int = kty 100 ∧ inG 165 (.arrayClass (kty 100)) := by decide +kernel
theorem q64_10 : qP 64 10 9 13 8 0 150 2 := by decide +kernel
theorem q64_13 : qD 64 13 (.return_) 1 14 ∧ mR 64 = none := by decide +kernel
theorem q65_0 : qD 65 0 (.iconst 0) 1 1 ∧ Int32.ofInt (0) = (0 : Int32) := by decide +kernel
theorem q65_1 : qD 65 1 (.istore_n 1) 1 2 ∧ ((1 : Fin 4) : Nat) = 1 ∧ 1 < mL 65 := by decide +kernel
theorem q65_2 : qD 65 2 (.bipush 24) 2 4 ∧ (Int8.ofInt (24)).toInt32 = (24 : Int32) := by decide +kernel
theorem q65_4 : qD 65 4 (.istore_n 2) 1 5 ∧ ((2 : Fin 4) : Nat) = 2 ∧ 2 < mL 65 := by decide +kernel
theorem q65_5 : qD 65 5 (.iload_n 2) 1 6 ∧ ((2 : Fin 4) : Nat) = 2 := by decide +kernel
theorem q65_6 : qJ 65 6 (.ifCond .lt 27) 9 (27) 33 := by decide +kernel
theorem q65_9 : qD 65 9 (.iload_n 1) 1 10 ∧ ((1 : Fin 4) : Nat) = 1 := by decide +kernel
theorem q65_10 : qD 65 10 (.iload_n 0) 1 11 ∧ ((0 : Fin 4) : Nat) = 0 := by decide +kernel
theorem q65_11 : qD 65 11 (.iload_n 2) 1 12 ∧ ((2 : Fin 4) : Nat) = 2 := by decide +kernel
theorem q65_12 : qD 65 12 (.iushr) 1 13 := by decide +kernel
theorem q65_13 : qD 65 13 (.sipush 255) 3 16 ∧ (Int16.ofInt (255)).toInt32 = (255 : Int32) := by decide +kernel
theorem q65_16 : qD 65 16 (.iand) 1 17 := by decide +kernel
theorem q65_17 : qJ 65 17 (.ifCond .ne 7) 20 (7) 24 := by decide +kernel
theorem q65_20 : qD 65 20 (.iconst 0) 1 21 ∧ Int32.ofInt (0) = (0 : Int32) := by decide +kernel
theorem q65_21 : qJ 65 21 (.goto 4) 24 (4) 25 := by decide +kernel
theorem q65_24 : qD 65 24 (.iconst 1) 1 25 ∧ Int32.ofInt (1) = (1 : Int32) := by decide +kernel
theorem q65_25 : qD 65 25 (.iadd) 1 26 := by decide +kernel
theorem q65_26 : qD 65 26 (.istore_n 1) 1 27 ∧ ((1 : Fin 4) : Nat) = 1 ∧ 1 < mL 65 := by decide +kernel
theorem q65_27 : qD 65 27 (.iinc 2 (-8)) 3 30 ∧ 2 < mL 65 ∧ Int32.ofInt (-8) = (-8 : Int32) := by decide +kernel
theorem q65_30 : qJ 65 30 (.goto (-25)) 33 (-25) 5 := by decide +kernel
theorem q65_33 : qD 65 33 (.iload_n 1) 1 34 ∧ ((1 : Fin 4) : Nat) = 1 := by decide +kernel
theorem q65_34 : qD 65 34 (.ireturn) 1 35 ∧ mR 65 = some .int := by decide +kernel
theorem q66_0 : qD 66 0 (.bipush 24) 2 2 ∧ (Int8.ofInt (24)).toInt32 = (24 : Int32) := by decide +kernel
theorem q66_2 : qD 66 2 (.istore_n 2) 1 3 ∧ ((2 : Fin 4) : Nat) = 2 ∧ 2 < mL 66 := by decide +kernel
theorem q66_3 : qD 66 3 (.iload_n 2) 1 4 ∧ ((2 : Fin 4) : Nat) = 2 := by decide +kernel
theorem q66_4 : qJ 66 4 (.ifCond .lt 51) 7 (51) 55 := by decide +kernel
theorem q66_7 : qD 66 7 (.iload_n 1) 1 8 ∧ ((1 : Fin 4) : Nat) = 1 := by decide +kernel
theorem q66_8 : qD 66 8 (.iload_n 2) 1 9 ∧ ((2 : Fin 4) : Nat) = 2 := by decide +kernel
theorem q66_9 : qD 66 9 (.iushr) 1 10 := by decide +kernel
theorem q66_10 : qD 66 10 (.sipush 255) 3 13 ∧ (Int16.ofInt (255)).toInt32 = (255 : Int32) := by decide +kernel
theorem q66_13 : qD 66 13 (.iand) 1 14 := by decide +kernel
theorem q66_14 : qD 66 14 (.istore_n 3) 1 15 ∧ ((3 : Fin 4) : Nat) = 3 ∧ 3 < mL 66 := by decide +kernel
theorem q66_15 : qD 66 15 (.iload_n 3) 1 16 ∧ ((3 : Fin 4) : Nat) = 3 := by decide +kernel
theorem q66_16 : qJ 66 16 (.ifCond .eq 33) 19 (33) 49 := by decide +kernel
theorem q66_19 : qD 66 19 (.aload_n 0) 1 20 ∧ ((0 : Fin 4) : Nat) = 0 := by decide +kernel
theorem q66_20 : qG 66 20 15 23 8 1 152 0 := by decide +kernel
theorem q66_23 : qD 66 23 (.sipush 240) 3 26 ∧ (Int16.ofInt (240)).toInt32 = (240 : Int32) := by decide +kernel
theorem q66_26 : qJ 66 26 (.if_icmp .ge 23) 29 (23) 49 := by decide +kernel
theorem q66_29 : qD 66 29 (.aload_n 0) 1 30 ∧ ((0 : Fin 4) : Nat) = 0 := by decide +kernel
theorem q66_30 : qG 66 30 9 33 8 0 150 2 := by decide +kernel
theorem q66_33 : qD 66 33 (.aload_n 0) 1 34 ∧ ((0 : Fin 4) : Nat) = 0 := by decide +kernel
theorem q66_34 : qG 66 34 15 37 8 1 152 0 := by decide +kernel
theorem q66_37 : qD 66 37 (.iload_n 3) 1 38 ∧ ((3 : Fin 4) : Nat) = 3 := by decide +kernel
theorem q66_38 : qD 66 38 (.iastore) 1 39 := by decide +kernel
theorem q66_39 : qD 66 39 (.aload_n 0) 1 40 ∧ ((0 : Fin 4) : Nat) = 0 := by decide +kernel
theorem q66_40 : qD 66 40 (.dup) 1 41 := by decide +kernel
theorem q66_41 : qG 66 41 15 44 8 1 152 0 := by decide +kernel
theorem q66_44 : qD 66 44 (.iconst 1) 1 45 ∧ Int32.ofInt (1) = (1 : Int32) := by decide +kernel
theorem q66_45 : qD 66 45 (.iadd) 1 46 := by decide +kernel
theorem q66_46 : qP 66 46 15 49 8 1 152 0 := by decide +kernel
theorem q66_49 : qD 66 49 (.iinc 2 (-8)) 3 52 ∧ 2 < mL 66 ∧ Int32.ofInt (-8) = (-8 : Int32) := by decide +kernel
theorem q66_52 : qJ 66 52 (.goto (-49)) 55 (-49) 3 := by decide +kernel
theorem q66_55 : qD 66 55 (.return_) 1 56 ∧ mR 66 = none := by decide +kernel
theorem q67_0 : qD 67 0 (.aload_n 0) 1 1 ∧ ((0 : Fin 4) : Nat) = 0 := by decide +kernel
theorem q67_1 : qD 67 1 (.iconst 0) 1 2 ∧ Int32.ofInt (0) = (0 : Int32) := by decide +kernel
theorem q67_2 : qP 67 2 19 5 8 2 153 0 := by decide +kernel
theorem q67_5 : qD 67 5 (.aload_n 0) 1 6 ∧ ((0 : Fin 4) : Nat) = 0 := by decide +kernel
theorem q67_6 : qD 67 6 (.iconst (-1)) 1 7 ∧ Int32.ofInt (-1) = (-1 : Int32) := by decide +kernel
theorem q67_7 : qP 67 7 22 10 8 3 154 0 := by decide +kernel
theorem q67_10 : qD 67 10 (.return_) 1 11 ∧ mR 67 = none := by decide +kernel
theorem q68_0 : qD 68 0 (.aload_n 0) 1 1 ∧ ((0 : Fin 4) : Nat) = 0 := by decide +kernel
theorem q68_1 : qG 68 1 22 4 8 3 154 0 := by decide +kernel
theorem q68_4 : qD 68 4 (.iconst (-1)) 1 5 ∧ Int32.ofInt (-1) = (-1 : Int32) := by decide +kernel
theorem q68_5 : qJ 68 5 (.if_icmp .ne 26) 8 (26) 31 := by decide +kernel
theorem q68_8 : qD 68 8 (.aload_n 0) 1 9 ∧ ((0 : Fin 4) : Nat) = 0 := by decide +kernel
theorem q68_9 : qG 68 9 19 12 8 2 153 0 := by decide +kernel
theorem q68_12 : qD 68 12 (.aload_n 0) 1 13 ∧ ((0 : Fin 4) : Nat) = 0 := by decide +kernel
theorem q68_13 : qG 68 13 15 16 8 1 152 0 := by decide +kernel
theorem q68_16 : qJ 68 16 (.if_icmp .ge 15) 19 (15) 31 := by decide +kernel
theorem q68_19 : qD 68 19 (.aload_n 0) 1 20 ∧ ((0 : Fin 4) : Nat) = 0 := by decide +kernel
theorem q68_20 : qG 68 20 9 23 8 0 150 2 := by decide +kernel
theorem q68_23 : qD 68 23 (.aload_n 0) 1 24 ∧ ((0 : Fin 4) : Nat) = 0 := by decide +kernel
theorem q68_24 : qG 68 24 19 27 8 2 153 0 := by decide +kernel
theorem q68_27 : qD 68 27 (.iaload) 1 28 := by decide +kernel
theorem q68_28 : qJ 68 28 (.goto 4) 31 (4) 32 := by decide +kernel
theorem q68_31 : qD 68 31 (.iconst (-1)) 1 32 ∧ Int32.ofInt (-1) = (-1 : Int32) := by decide +kernel
theorem q68_32 : qD 68 32 (.ireturn) 1 33 ∧ mR 68 = some .int := by decide +kernel
theorem q69_0 : qD 69 0 (.aload_n 0) 1 1 ∧ ((0 : Fin 4) : Nat) = 0 := by decide +kernel
theorem q69_1 : qG 69 1 19 4 8 2 153 0 := by decide +kernel
theorem q69_4 : qD 69 4 (.aload_n 0) 1 5 ∧ ((0 : Fin 4) : Nat) = 0 := by decide +kernel
theorem q69_5 : qG 69 5 15 8 8 1 152 0 := by decide +kernel
theorem q69_8 : qJ 69 8 (.if_icmp .ge 30) 11 (30) 38 := by decide +kernel
theorem q69_11 : qD 69 11 (.aload_n 0) 1 12 ∧ ((0 : Fin 4) : Nat) = 0 := by decide +kernel
theorem q69_12 : qG 69 12 9 15 8 0 150 2 := by decide +kernel
theorem q69_15 : qD 69 15 (.aload_n 0) 1 16 ∧ ((0 : Fin 4) : Nat) = 0 := by decide +kernel
theorem q69_16 : qG 69 16 19 19 8 2 153 0 := by decide +kernel
theorem q69_19 : qD 69 19 (.iaload) 1 20 := by decide +kernel
theorem q69_20 : qD 69 20 (.bipush 32) 2 22 ∧ (Int8.ofInt (32)).toInt32 = (32 : Int32) := by decide +kernel
theorem q69_22 : qJ 69 22 (.if_icmp .ne 16) 25 (16) 38 := by decide +kernel
theorem q69_25 : qD 69 25 (.aload_n 0) 1 26 ∧ ((0 : Fin 4) : Nat) = 0 := by decide +kernel
theorem q69_26 : qD 69 26 (.dup) 1 27 := by decide +kernel
theorem q69_27 : qG 69 27 19 30 8 2 153 0 := by decide +kernel
theorem q69_30 : qD 69 30 (.iconst 1) 1 31 ∧ Int32.ofInt (1) = (1 : Int32) := by decide +kernel
theorem q69_31 : qD 69 31 (.iadd) 1 32 := by decide +kernel
theorem q69_32 : qP 69 32 19 35 8 2 153 0 := by decide +kernel
theorem q69_35 : qJ 69 35 (.goto (-35)) 38 (-35) 0 := by decide +kernel
theorem q69_38 : qD 69 38 (.aload_n 0) 1 39 ∧ ((0 : Fin 4) : Nat) = 0 := by decide +kernel
theorem q69_39 : qD 69 39 (.invokevirtual 25) 3 42 ∧ qI 69 25 68 432 := by decide +kernel
theorem q69_42 : qD 69 42 (.ireturn) 1 43 ∧ mR 69 = some .int := by decide +kernel
theorem q70_0 : qD 70 0 (.aload_n 0) 1 1 ∧ ((0 : Fin 4) : Nat) = 0 := by decide +kernel
theorem q70_1 : qG 70 1 19 4 8 2 153 0 := by decide +kernel
theorem q70_4 : qD 70 4 (.aload_n 0) 1 5 ∧ ((0 : Fin 4) : Nat) = 0 := by decide +kernel
theorem q70_5 : qG 70 5 15 8 8 1 152 0 := by decide +kernel
theorem q70_8 : qJ 70 8 (.if_icmp .ge 13) 11 (13) 21 := by decide +kernel
theorem q70_11 : qD 70 11 (.aload_n 0) 1 12 ∧ ((0 : Fin 4) : Nat) = 0 := by decide +kernel
theorem q70_12 : qD 70 12 (.dup) 1 13 := by decide +kernel
theorem q70_13 : qG 70 13 19 16 8 2 153 0 := by decide +kernel
theorem q70_16 : qD 70 16 (.iconst 1) 1 17 ∧ Int32.ofInt (1) = (1 : Int32) := by decide +kernel
theorem q70_17 : qD 70 17 (.iadd) 1 18 := by decide +kernel
theorem q70_18 : qP 70 18 19 21 8 2 153 0 := by decide +kernel
theorem q70_21 : qD 70 21 (.return_) 1 22 ∧ mR 70 = none := by decide +kernel
theorem q71_0 : qD 71 0 (.aload_n 0) 1 1 ∧ ((0 : Fin 4) : Nat) = 0 := by decide +kernel
theorem q71_1 : qD 71 1 (.invokevirtual 29) 3 4 ∧ qI 71 29 69 463 := by decide +kernel
theorem q71_4 : qD 71 4 (.iload_n 1) 1 5 ∧ ((1 : Fin 4) : Nat) = 1 := by decide +kernel
theorem q71_5 : qJ 71 5 (.if_icmp .eq 5) 8 (5) 10 := by decide +kernel
theorem q71_8 : qD 71 8 (.iconst 0) 1 9 ∧ Int32.ofInt (0) = (0 : Int32) := by decide +kernel
theorem q71_9 : qD 71 9 (.ireturn) 1 10 ∧ mR 71 = some .boolean := by decide +kernel
theorem q71_10 : qD 71 10 (.aload_n 0) 1 11 ∧ ((0 : Fin 4) : Nat) = 0 := by decide +kernel
theorem q71_11 : qD 71 11 (.invokevirtual 32) 3 14 ∧ qI 71 32 70 556 := by decide +kernel
theorem q71_14 : qD 71 14 (.iconst 1) 1 15 ∧ Int32.ofInt (1) = (1 : Int32) := by decide +kernel
theorem q71_15 : qD 71 15 (.ireturn) 1 16 ∧ mR 71 = some .boolean := by decide +kernel
theorem q72_0 : qD 72 0 (.aload_n 0) 1 1 ∧ ((0 : Fin 4) : Nat) = 0 := by decide +kernel
theorem q72_1 : qD 72 1 (.iload_n 1) 1 2 ∧ ((1 : Fin 4) : Nat) = 1 := by decide +kernel
theorem q72_2 : qD 72 2 (.invokevirtual 35) 3 5 ∧ qI 72 35 71 595 := by decide +kernel
theorem q72_5 : qJ 72 5 (.ifCond .ne 11) 8 (11) 16 := by decide +kernel
theorem q72_8 : qD 72 8 (.aload_n 0) 1 9 ∧ ((0 : Fin 4) : Nat) = 0 := by decide +kernel
theorem q72_9 : qD 72 9 (.aload_n 0) 1 10 ∧ ((0 : Fin 4) : Nat) = 0 := by decide +kernel
theorem q72_10 : qG 72 10 19 13 8 2 153 0 := by decide +kernel
theorem q72_13 : qD 72 13 (.invokevirtual 39) 3 16 ∧ qI 72 39 75 545 := by decide +kernel
theorem q72_16 : qD 72 16 (.return_) 1 17 ∧ mR 72 = none := by decide +kernel
theorem q73_0 : qD 73 0 (.aload_n 0) 1 1 ∧ ((0 : Fin 4) : Nat) = 0 := by decide +kernel
theorem q73_1 : qD 73 1 (.invokevirtual 29) 3 4 ∧ qI 73 29 69 463 := by decide +kernel
theorem q73_4 : qD 73 4 (.iconst (-1)) 1 5 ∧ Int32.ofInt (-1) = (-1 : Int32) := by decide +kernel
theorem q73_5 : qJ 73 5 (.if_icmp .eq 11) 8 (11) 16 := by decide +kernel
theorem q73_8 : qD 73 8 (.aload_n 0) 1 9 ∧ ((0 : Fin 4) : Nat) = 0 := by decide +kernel
theorem q73_9 : qD 73 9 (.aload_n 0) 1 10 ∧ ((0 : Fin 4) : Nat) = 0 := by decide +kernel
theorem q73_10 : qG 73 10 19 13 8 2 153 0 := by decide +kernel
theorem q73_13 : qD 73 13 (.invokevirtual 39) 3 16 ∧ qI 73 39 75 545 := by decide +kernel
theorem q73_16 : qD 73 16 (.return_) 1 17 ∧ mR 73 = none := by decide +kernel
theorem q74_0 : qD 74 0 (.aload_n 0) 1 1 ∧ ((0 : Fin 4) : Nat) = 0 := by decide +kernel
theorem q74_1 : qD 74 1 (.invokevirtual 29) 3 4 ∧ qI 74 29 69 463 := by decide +kernel
theorem q74_4 : qD 74 4 (.pop) 1 5 := by decide +kernel
theorem q74_5 : qD 74 5 (.aload_n 0) 1 6 ∧ ((0 : Fin 4) : Nat) = 0 := by decide +kernel
theorem q74_6 : qD 74 6 (.aload_n 0) 1 7 ∧ ((0 : Fin 4) : Nat) = 0 := by decide +kernel
theorem q74_7 : qG 74 7 19 10 8 2 153 0 := by decide +kernel
theorem q74_10 : qD 74 10 (.invokevirtual 39) 3 13 ∧ qI 74 39 75 545 := by decide +kernel
theorem q74_13 : qD 74 13 (.return_) 1 14 ∧ mR 74 = none := by decide +kernel
theorem q75_0 : qD 75 0 (.aload_n 0) 1 1 ∧ ((0 : Fin 4) : Nat) = 0 := by decide +kernel
theorem q75_1 : qG 75 1 22 4 8 3 154 0 := by decide +kernel
theorem q75_4 : qD 75 4 (.iconst (-1)) 1 5 ∧ Int32.ofInt (-1) = (-1 : Int32) := by decide +kernel
theorem q75_5 : qJ 75 5 (.if_icmp .ne 8) 8 (8) 13 := by decide +kernel
theorem q75_8 : qD 75 8 (.aload_n 0) 1 9 ∧ ((0 : Fin 4) : Nat) = 0 := by decide +kernel
theorem q75_9 : qD 75 9 (.iload_n 1) 1 10 ∧ ((1 : Fin 4) : Nat) = 1 := by decide +kernel
theorem q75_10 : qP 75 10 22 13 8 3 154 0 := by decide +kernel
theorem q75_13 : qD 75 13 (.return_) 1 14 ∧ mR 75 = none := by decide +kernel
theorem q76_0 : qD 76 0 (.aload_n 0) 1 1 ∧ ((0 : Fin 4) : Nat) = 0 := by decide +kernel
theorem q76_1 : qD 76 1 (.invokevirtual 29) 3 4 ∧ qI 76 29 69 463 := by decide +kernel
theorem q76_4 : qD 76 4 (.istore_n 2) 1 5 ∧ ((2 : Fin 4) : Nat) = 2 ∧ 2 < mL 76 := by decide +kernel
theorem q76_5 : qD 76 5 (.iload_n 2) 1 6 ∧ ((2 : Fin 4) : Nat) = 2 := by decide +kernel
theorem q76_6 : qD 76 6 (.iconst (-1)) 1 7 ∧ Int32.ofInt (-1) = (-1 : Int32) := by decide +kernel
theorem q76_7 : qJ 76 7 (.if_icmp .ne 7) 10 (7) 14 := by decide +kernel
theorem q76_10 : qD 76 10 (.iconst (-1)) 1 11 ∧ Int32.ofInt (-1) = (-1 : Int32) := by decide +kernel
theorem q76_11 : qJ 76 11 (.goto 9) 14 (9) 20 := by decide +kernel
theorem q76_14 : qD 76 14 (.aload_n 1) 1 15 ∧ ((1 : Fin 4) : Nat) = 1 := by decide +kernel
theorem q76_15 : qD 76 15 (.iload_n 2) 1 16 ∧ ((2 : Fin 4) : Nat) = 2 := by decide +kernel
theorem q76_16 : qD 76 16 (.i2c) 1 17 := by decide +kernel
theorem q76_17 : qD 76 17 (.invokevirtual 43) 3 20 ∧ inG 464 (.methodLink (mN 76).cls 43 (mN 303)) ∧ mL 303 ≤ 41 ∧ (mN 303).cls = "java/lang/String" := by decide +kernel
theorem q76_20 : qD 76 20 (.ireturn) 1 21 ∧ mR 76 = some .int := by decide +kernel
theorem q77_0 : qD 77 0 (.aload_n 0) 1 1 ∧ ((0 : Fin 4) : Nat) = 0 := by decide +kernel
theorem q77_1 : qD 77 1 (.invokevirtual 29) 3 4 ∧ qI 77 29 69 463 := by decide +kernel
theorem q77_4 : qD 77 4 (.istore_n 1) 1 5 ∧ ((1 : Fin 4) : Nat) = 1 ∧ 1 < mL 77 := by decide +kernel
theorem q77_5 : qD 77 5 (.iload_n 1) 1 6 ∧ ((1 : Fin 4) : Nat) = 1 := by decide +kernel
theorem q77_6 : qD 77 6 (.invokestatic 49) 3 9 ∧ qI 77 49 79 553 := by decide +kernel
theorem q77_9 : qJ 77 9 (.ifCond .ne 13) 12 (13) 22 := by decide +kernel
theorem q77_12 : qD 77 12 (.aload_n 0) 1 13 ∧ ((0 : Fin 4) : Nat) = 0 := by decide +kernel
theorem q77_13 : qD 77 13 (.aload_n 0) 1 14 ∧ ((0 : Fin 4) : Nat) = 0 := by decide +kernel
theorem q77_14 : qG 77 14 19 17 8 2 153 0 := by decide +kernel
theorem q77_17 : qD 77 17 (.invokevirtual 39) 3 20 ∧ qI 77 39 75 545 := by decide +kernel
theorem q77_20 : qD 77 20 (.iconst 0) 1 21 ∧ Int32.ofInt (0) = (0 : Int32) := by decide +kernel
theorem q77_21 : qD 77 21 (.ireturn) 1 22 ∧ mR 77 = some .int := by decide +kernel
theorem q77_22 : qD 77 22 (.aload_n 0) 1 23 ∧ ((0 : Fin 4) : Nat) = 0 := by decide +kernel
theorem q77_23 : qD 77 23 (.invokevirtual 32) 3 26 ∧ qI 77 32 70 556 := by decide +kernel
theorem q77_26 : qD 77 26 (.iload_n 1) 1 27 ∧ ((1 : Fin 4) : Nat) = 1 := by decide +kernel
theorem q77_27 : qD 77 27 (.bipush 48) 2 29 ∧ (Int8.ofInt (48)).toInt32 = (48 : Int32) := by decide +kernel
theorem q77_29 : qD 77 29 (.isub) 1 30 := by decide +kernel
theorem q77_30 : qD 77 30 (.ireturn) 1 31 ∧ mR 77 = some .int := by decide +kernel
theorem q78_0 : qD 78 0 (.aload_n 0) 1 1 ∧ ((0 : Fin 4) : Nat) = 0 := by decide +kernel
theorem q78_1 : qD 78 1 (.invokevirtual 29) 3 4 ∧ qI 78 29 69 463 := by decide +kernel
theorem q78_4 : qD 78 4 (.istore 4) 2 6 ∧ 4 < mL 78 := by decide +kernel
theorem q78_6 : qD 78 6 (.iconst 0) 1 7 ∧ Int32.ofInt (0) = (0 : Int32) := by decide +kernel
theorem q78_7 : qD 78 7 (.istore 5) 2 9 ∧ 5 < mL 78 := by decide +kernel
theorem q78_9 : qD 78 9 (.iconst 0) 1 10 ∧ Int32.ofInt (0) = (0 : Int32) := by decide +kernel
theorem q78_10 : qD 78 10 (.istore 6) 2 12 ∧ 6 < mL 78 := by decide +kernel
theorem q78_12 : qD 78 12 (.iload 6) 2 14 := by decide +kernel
theorem q78_14 : qD 78 14 (.iload_n 1) 1 15 ∧ ((1 : Fin 4) : Nat) = 1 := by decide +kernel
theorem q78_15 : qJ 78 15 (.if_icmp .ge 40) 18 (40) 55 := by decide +kernel
theorem q78_18 : qD 78 18 (.iload 4) 2 20 := by decide +kernel
theorem q78_20 : qD 78 20 (.invokestatic 49) 3 23 ∧ qI 78 49 79 553 := by decide +kernel
theorem q78_23 : qJ 78 23 (.ifCond .eq 32) 26 (32) 55 := by decide +kernel
theorem q78_26 : qD 78 26 (.bipush 10) 2 28 ∧ (Int8.ofInt (10)).toInt32 = (10 : Int32) := by decide +kernel
theorem q78_28 : qD 78 28 (.iload 5) 2 30 := by decide +kernel
theorem q78_30 : qD 78 30 (.imul) 1 31 := by decide +kernel
theorem q78_31 : qD 78 31 (.iload 4) 2 33 := by decide +kernel
theorem q78_33 : qD 78 33 (.iadd) 1 34 := by decide +kernel
theorem q78_34 : qD 78 34 (.bipush 48) 2 36 ∧ (Int8.ofInt (48)).toInt32 = (48 : Int32) := by decide +kernel
theorem q78_36 : qD 78 36 (.isub) 1 37 := by decide +kernel
theorem q78_37 : qD 78 37 (.istore 5) 2 39 ∧ 5 < mL 78 := by decide +kernel
theorem q78_39 : qD 78 39 (.iinc 6 1) 3 42 ∧ 6 < mL 78 ∧ Int32.ofInt (1) = (1 : Int32) := by decide +kernel
theorem q78_42 : qD 78 42 (.aload_n 0) 1 43 ∧ ((0 : Fin 4) : Nat) = 0 := by decide +kernel
theorem q78_43 : qD 78 43 (.invokevirtual 32) 3 46 ∧ qI 78 32 70 556 := by decide +kernel
theorem q78_46 : qD 78 46 (.aload_n 0) 1 47 ∧ ((0 : Fin 4) : Nat) = 0 := by decide +kernel
theorem q78_47 : qD 78 47 (.invokevirtual 25) 3 50 ∧ qI 78 25 68 432 := by decide +kernel
theorem q78_50 : qD 78 50 (.istore 4) 2 52 ∧ 4 < mL 78 := by decide +kernel
theorem q78_52 : qJ 78 52 (.goto (-40)) 55 (-40) 12 := by decide +kernel
theorem q78_55 : qD 78 55 (.iload 6) 2 57 := by decide +kernel
theorem q78_57 : qJ 78 57 (.ifCond .eq 11) 60 (11) 68 := by decide +kernel
theorem q78_60 : qD 78 60 (.iload 4) 2 62 := by decide +kernel
theorem q78_62 : qD 78 62 (.invokestatic 49) 3 65 ∧ qI 78 49 79 553 := by decide +kernel
theorem q78_65 : qJ 78 65 (.ifCond .eq 14) 68 (14) 79 := by decide +kernel
theorem q78_68 : qD 78 68 (.aload_n 0) 1 69 ∧ ((0 : Fin 4) : Nat) = 0 := by decide +kernel
theorem q78_69 : qD 78 69 (.aload_n 0) 1 70 ∧ ((0 : Fin 4) : Nat) = 0 := by decide +kernel
theorem q78_70 : qG 78 70 19 73 8 2 153 0 := by decide +kernel
theorem q78_73 : qD 78 73 (.invokevirtual 39) 3 76 ∧ qI 78 39 75 545 := by decide +kernel
theorem q78_76 : qJ 78 76 (.goto 25) 79 (25) 101 := by decide +kernel
theorem q78_79 : qD 78 79 (.iload 5) 2 81 := by decide +kernel
theorem q78_81 : qD 78 81 (.iload_n 2) 1 82 ∧ ((2 : Fin 4) : Nat) = 2 := by decide +kernel
theorem q78_82 : qJ 78 82 (.if_icmp .lt 9) 85 (9) 91 := by decide +kernel
theorem q78_85 : qD 78 85 (.iload 5) 2 87 := by decide +kernel
theorem q78_87 : qD 78 87 (.iload_n 3) 1 88 ∧ ((3 : Fin 4) : Nat) = 3 := by decide +kernel
theorem q78_88 : qJ 78 88 (.if_icmp .le 13) 91 (13) 101 := by decide +kernel
theorem q78_91 : qD 78 91 (.aload_n 0) 1 92 ∧ ((0 : Fin 4) : Nat) = 0 := by decide +kernel
theorem q78_92 : qD 78 92 (.aload_n 0) 1 93 ∧ ((0 : Fin 4) : Nat) = 0 := by decide +kernel
theorem q78_93 : qG 78 93 19 96 8 2 153 0 := by decide +kernel
theorem q78_96 : qD 78 96 (.iconst 1) 1 97 ∧ Int32.ofInt (1) = (1 : Int32) := by decide +kernel
theorem q78_97 : qD 78 97 (.isub) 1 98 := by decide +kernel
theorem q78_98 : qD 78 98 (.invokevirtual 39) 3 101 ∧ qI 78 39 75 545 := by decide +kernel
theorem q78_101 : qD 78 101 (.iload 5) 2 103 := by decide +kernel
theorem q78_103 : qD 78 103 (.ireturn) 1 104 ∧ mR 78 = some .int := by decide +kernel
theorem q79_0 : qD 79 0 (.iload_n 0) 1 1 ∧ ((0 : Fin 4) : Nat) = 0 := by decide +kernel
theorem q79_1 : qD 79 1 (.bipush 48) 2 3 ∧ (Int8.ofInt (48)).toInt32 = (48 : Int32) := by decide +kernel
theorem q79_3 : qJ 79 3 (.if_icmp .lt 13) 6 (13) 16 := by decide +kernel
theorem q79_6 : qD 79 6 (.iload_n 0) 1 7 ∧ ((0 : Fin 4) : Nat) = 0 := by decide +kernel
theorem q79_7 : qD 79 7 (.bipush 57) 2 9 ∧ (Int8.ofInt (57)).toInt32 = (57 : Int32) := by decide +kernel
theorem q79_9 : qJ 79 9 (.if_icmp .gt 7) 12 (7) 16 := by decide +kernel
theorem q79_12 : qD 79 12 (.iconst 1) 1 13 ∧ Int32.ofInt (1) = (1 : Int32) := by decide +kernel
theorem q79_13 : qJ 79 13 (.goto 4) 16 (4) 17 := by decide +kernel
theorem q79_16 : qD 79 16 (.iconst 0) 1 17 ∧ Int32.ofInt (0) = (0 : Int32) := by decide +kernel
theorem q79_17 : qD 79 17 (.ireturn) 1 18 ∧ mR 79 = some .boolean := by decide +kernel
