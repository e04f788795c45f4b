theorem q202_2 : qG 202 2 9 5 11 1 1266 2 := by decide +kernel
theorem q202_5 : qD 202 5 (.iconst 0) 1 6 ∧ Int32.ofInt (0) = (0 : Int32) := by decide +kernel
theorem q202_6 : qD 202 6 (.aload_n 0) 1 7 ∧ ((0 : Fin 4) : Nat) = 0 := by decide +kernel
theorem q202_7 : qG 202 7 103 10 11 6 1271 0 := by decide +kernel
theorem q202_10 : qD 202 10 (.invokevirtual 201) 3 13 ∧ qI 202 201 192 1442 := by decide +kernel
theorem q202_13 : qD 202 13 (.aload_n 0) 1 14 ∧ ((0 : Fin 4) : Nat) = 0 := by decide +kernel
theorem q202_14 : qD 202 14 (.iconst 0) 1 15 ∧ Int32.ofInt (0) = (0 : Int32) := by decide +kernel
theorem q202_15 : qP 202 15 239 18 11 28 1293 0 := by decide +kernel
theorem q202_18 : qD 202 18 (.aload_n 0) 1 19 ∧ ((0 : Fin 4) : Nat) = 0 := by decide +kernel
theorem q202_19 : qD 202 19 (.iconst 0) 1 20 ∧ Int32.ofInt (0) = (0 : Int32) := by decide +kernel
theorem q202_20 : qP 202 20 242 23 11 29 1294 0 := by decide +kernel
theorem q202_23 : qD 202 23 (.aload_n 0) 1 24 ∧ ((0 : Fin 4) : Nat) = 0 := by decide +kernel
theorem q202_24 : qD 202 24 (.iconst 0) 1 25 ∧ Int32.ofInt (0) = (0 : Int32) := by decide +kernel
theorem q202_25 : qP 202 25 236 28 11 31 1296 0 := by decide +kernel
theorem q202_28 : qD 202 28 (.iconst 0) 1 29 ∧ Int32.ofInt (0) = (0 : Int32) := by decide +kernel
theorem q202_29 : qD 202 29 (.istore_n 1) 1 30 ∧ ((1 : Fin 4) : Nat) = 1 ∧ 1 < mL 202 := by decide +kernel
theorem q202_30 : qD 202 30 (.iload_n 1) 1 31 ∧ ((1 : Fin 4) : Nat) = 1 := by decide +kernel
theorem q202_31 : qD 202 31 (.iconst 4) 1 32 ∧ Int32.ofInt (4) = (4 : Int32) := by decide +kernel
theorem q202_32 : qJ 202 32 (.if_icmp .ge 21) 35 (21) 53 := by decide +kernel
theorem q202_35 : qD 202 35 (.aload_n 0) 1 36 ∧ ((0 : Fin 4) : Nat) = 0 := by decide +kernel
theorem q202_36 : qG 202 36 40 39 11 19 1284 2 := by decide +kernel
theorem q202_39 : qD 202 39 (.iload_n 1) 1 40 ∧ ((1 : Fin 4) : Nat) = 1 := by decide +kernel
theorem q202_40 : qD 202 40 (.bipush 115) 2 42 ∧ (Int8.ofInt (115)).toInt32 = (115 : Int32) := by decide +kernel
theorem q202_42 : qD 202 42 (.iload_n 1) 1 43 ∧ ((1 : Fin 4) : Nat) = 1 := by decide +kernel
theorem q202_43 : qD 202 43 (.invokestatic 215) 3 46 ∧ qI 202 215 199 1446 := by decide +kernel
theorem q202_46 : qD 202 46 (.iastore) 1 47 := by decide +kernel
theorem q202_47 : qD 202 47 (.iinc 1 1) 3 50 ∧ 1 < mL 202 ∧ Int32.ofInt (1) = (1 : Int32) := by decide +kernel
theorem q202_50 : qJ 202 50 (.goto (-20)) 53 (-20) 30 := by decide +kernel
theorem q202_53 : qD 202 53 (.iconst 1) 1 54 ∧ Int32.ofInt (1) = (1 : Int32) := by decide +kernel
theorem q202_54 : qD 202 54 (.istore_n 1) 1 55 ∧ ((1 : Fin 4) : Nat) = 1 ∧ 1 < mL 202 := by decide +kernel
theorem q202_55 : qD 202 55 (.iload_n 1) 1 56 ∧ ((1 : Fin 4) : Nat) = 1 := by decide +kernel
theorem q202_56 : qJ 202 56 (.ifCond .eq 55) 59 (55) 111 := by decide +kernel
theorem q202_59 : qD 202 59 (.aload_n 0) 1 60 ∧ ((0 : Fin 4) : Nat) = 0 := by decide +kernel
theorem q202_60 : qG 202 60 122 63 11 11 1276 0 := by decide +kernel
theorem q202_63 : qD 202 63 (.iconst (-1)) 1 64 ∧ Int32.ofInt (-1) = (-1 : Int32) := by decide +kernel
theorem q202_64 : qJ 202 64 (.if_icmp .ne 47) 67 (47) 111 := by decide +kernel
theorem q202_67 : qD 202 67 (.aload_n 0) 1 68 ∧ ((0 : Fin 4) : Nat) = 0 := by decide +kernel
theorem q202_68 : qD 202 68 (.invokevirtual 255) 3 71 ∧ qI 202 255 201 1449 := by decide +kernel
theorem q202_71 : qD 202 71 (.aload_n 0) 1 72 ∧ ((0 : Fin 4) : Nat) = 0 := by decide +kernel
theorem q202_72 : qG 202 72 122 75 11 11 1276 0 := by decide +kernel
theorem q202_75 : qD 202 75 (.iconst (-1)) 1 76 ∧ Int32.ofInt (-1) = (-1 : Int32) := by decide +kernel
theorem q202_76 : qJ 202 76 (.if_icmp .ne 16) 79 (16) 92 := by decide +kernel
theorem q202_79 : qD 202 79 (.aload_n 0) 1 80 ∧ ((0 : Fin 4) : Nat) = 0 := by decide +kernel
theorem q202_80 : qD 202 80 (.invokevirtual 132) 3 83 ∧ qI 202 132 177 1453 := by decide +kernel
theorem q202_83 : qD 202 83 (.bipush 59) 2 85 ∧ (Int8.ofInt (59)).toInt32 = (59 : Int32) := by decide +kernel
theorem q202_85 : qJ 202 85 (.if_icmp .ne 7) 88 (7) 92 := by decide +kernel
theorem q202_88 : qD 202 88 (.iconst 1) 1 89 ∧ Int32.ofInt (1) = (1 : Int32) := by decide +kernel
theorem q202_89 : qJ 202 89 (.goto 4) 92 (4) 93 := by decide +kernel
theorem q202_92 : qD 202 92 (.iconst 0) 1 93 ∧ Int32.ofInt (0) = (0 : Int32) := by decide +kernel
theorem q202_93 : qD 202 93 (.istore_n 1) 1 94 ∧ ((1 : Fin 4) : Nat) = 1 ∧ 1 < mL 202 := by decide +kernel
theorem q202_94 : qD 202 94 (.iload_n 1) 1 95 ∧ ((1 : Fin 4) : Nat) = 1 := by decide +kernel
theorem q202_95 : qJ 202 95 (.ifCond .eq (-40)) 98 (-40) 55 := by decide +kernel
theorem q202_98 : qD 202 98 (.aload_n 0) 1 99 ∧ ((0 : Fin 4) : Nat) = 0 := by decide +kernel
theorem q202_99 : qD 202 99 (.dup) 1 100 := by decide +kernel
theorem q202_100 : qG 202 100 113 103 11 10 1275 0 := by decide +kernel
theorem q202_103 : qD 202 103 (.iconst 1) 1 104 ∧ Int32.ofInt (1) = (1 : Int32) := by decide +kernel
theorem q202_104 : qD 202 104 (.iadd) 1 105 := by decide +kernel
theorem q202_105 : qP 202 105 113 108 11 10 1275 0 := by decide +kernel
theorem q202_108 : qJ 202 108 (.goto (-53)) 111 (-53) 55 := by decide +kernel
theorem q202_111 : qD 202 111 (.aload_n 0) 1 112 ∧ ((0 : Fin 4) : Nat) = 0 := by decide +kernel
theorem q202_112 : qG 202 112 122 115 11 11 1276 0 := by decide +kernel
theorem q202_115 : qD 202 115 (.iconst (-1)) 1 116 ∧ Int32.ofInt (-1) = (-1 : Int32) := by decide +kernel
theorem q202_116 : qJ 202 116 (.if_icmp .ne 44) 119 (44) 160 := by decide +kernel
theorem q202_119 : qD 202 119 (.aload_n 0) 1 120 ∧ ((0 : Fin 4) : Nat) = 0 := by decide +kernel
theorem q202_120 : qD 202 120 (.invokevirtual 132) 3 123 ∧ qI 202 132 177 1453 := by decide +kernel
theorem q202_123 : qD 202 123 (.iconst (-1)) 1 124 ∧ Int32.ofInt (-1) = (-1 : Int32) := by decide +kernel
theorem q202_124 : qJ 202 124 (.if_icmp .ne 31) 127 (31) 155 := by decide +kernel
theorem q202_127 : qD 202 127 (.aload_n 0) 1 128 ∧ ((0 : Fin 4) : Nat) = 0 := by decide +kernel
theorem q202_128 : qG 202 128 239 131 11 28 1293 0 := by decide +kernel
theorem q202_131 : qD 202 131 (.iconst 2) 1 132 ∧ Int32.ofInt (2) = (2 : Int32) := by decide +kernel
theorem q202_132 : qJ 202 132 (.if_icmp .lt 23) 135 (23) 155 := by decide +kernel
theorem q202_135 : qD 202 135 (.aload_n 0) 1 136 ∧ ((0 : Fin 4) : Nat) = 0 := by decide +kernel
theorem q202_136 : qG 202 136 242 139 11 29 1294 0 := by decide +kernel
theorem q202_139 : qJ 202 139 (.ifCond .eq 16) 142 (16) 155 := by decide +kernel
theorem q202_142 : qD 202 142 (.aload_n 0) 1 143 ∧ ((0 : Fin 4) : Nat) = 0 := by decide +kernel
theorem q202_143 : qG 202 143 40 146 11 19 1284 2 := by decide +kernel
theorem q202_146 : qD 202 146 (.iconst 0) 1 147 ∧ Int32.ofInt (0) = (0 : Int32) := by decide +kernel
theorem q202_147 : qD 202 147 (.iaload) 1 148 := by decide +kernel
theorem q202_148 : qD 202 148 (.aload_n 0) 1 149 ∧ ((0 : Fin 4) : Nat) = 0 := by decide +kernel
theorem q202_149 : qG 202 149 239 152 11 28 1293 0 := by decide +kernel
theorem q202_152 : qJ 202 152 (.if_icmp .lt 8) 155 (8) 160 := by decide +kernel
theorem q202_155 : qD 202 155 (.aload_n 0) 1 156 ∧ ((0 : Fin 4) : Nat) = 0 := by decide +kernel
theorem q202_156 : qD 202 156 (.invokevirtual 128) 3 159 ∧ qI 202 128 178 1457 := by decide +kernel
theorem q202_159 : qD 202 159 (.pop) 1 160 := by decide +kernel
theorem q202_160 : qD 202 160 (.return_) 1 161 ∧ mR 202 = none := by decide +kernel
theorem q203_0 : qD 203 0 (.aload_n 0) 1 1 ∧ ((0 : Fin 4) : Nat) = 0 := by decide +kernel
theorem q203_1 : qD 203 1 (.invokevirtual 132) 3 4 ∧ qI 203 132 177 1453 := by decide +kernel
theorem q203_4 : qD 203 4 (.istore_n 1) 1 5 ∧ ((1 : Fin 4) : Nat) = 1 ∧ 1 < mL 203 := by decide +kernel
theorem q203_5 : qD 203 5 (.aload_n 0) 1 6 ∧ ((0 : Fin 4) : Nat) = 0 := by decide +kernel
theorem q203_6 : qD 203 6 (.invokevirtual 162) 3 9 ∧ qI 203 162 181 1503 := by decide +kernel
theorem q203_9 : qJ 203 9 (.ifCond .ne 10) 12 (10) 19 := by decide +kernel
theorem q203_12 : qD 203 12 (.aload_n 0) 1 13 ∧ ((0 : Fin 4) : Nat) = 0 := by decide +kernel
theorem q203_13 : qD 203 13 (.invokevirtual 128) 3 16 ∧ qI 203 128 178 1457 := by decide +kernel
theorem q203_16 : qD 203 16 (.pop) 1 17 := by decide +kernel
theorem q203_17 : qD 203 17 (.iconst 0) 1 18 ∧ Int32.ofInt (0) = (0 : Int32) := by decide +kernel
theorem q203_18 : qD 203 18 (.ireturn) 1 19 ∧ mR 203 = some .int := by decide +kernel
theorem q203_19 : qD 203 19 (.aload_n 0) 1 20 ∧ ((0 : Fin 4) : Nat) = 0 := by decide +kernel
theorem q203_20 : qD 203 20 (.dup) 1 21 := by decide +kernel
theorem q203_21 : qG 203 21 113 24 11 10 1275 0 := by decide +kernel
theorem q203_24 : qD 203 24 (.iconst 1) 1 25 ∧ Int32.ofInt (1) = (1 : Int32) := by decide +kernel
theorem q203_25 : qD 203 25 (.iadd) 1 26 := by decide +kernel
theorem q203_26 : qP 203 26 113 29 11 10 1275 0 := by decide +kernel
theorem q203_29 : qD 203 29 (.iload_n 1) 1 30 ∧ ((1 : Fin 4) : Nat) = 1 := by decide +kernel
theorem q203_30 : qD 203 30 (.bipush 48) 2 32 ∧ (Int8.ofInt (48)).toInt32 = (48 : Int32) := by decide +kernel
theorem q203_32 : qD 203 32 (.isub) 1 33 := by decide +kernel
theorem q203_33 : qD 203 33 (.ireturn) 1 34 ∧ mR 203 = some .int := by decide +kernel
theorem q204_0 : qD 204 0 (.ldc_w 258) 3 3 ∧ cR[12]? = some ((mN 204).cls, 258, "smtce", 4) := by decide +kernel
theorem q204_3 : qD 204 3 (.aload_n 0) 1 4 ∧ ((0 : Fin 4) : Nat) = 0 := by decide +kernel
theorem q204_4 : qD 204 4 (.invokevirtual 132) 3 7 ∧ qI 204 132 177 1453 := by decide +kernel
theorem q204_7 : qD 204 7 (.invokestatic 219) 3 10 ∧ qI 204 219 195 1467 := by decide +kernel
theorem q204_10 : qD 204 10 (.istore_n 2) 1 11 ∧ ((2 : Fin 4) : Nat) = 2 ∧ 2 < mL 204 := by decide +kernel
theorem q204_11 : qD 204 11 (.iload_n 2) 1 12 ∧ ((2 : Fin 4) : Nat) = 2 := by decide +kernel
theorem q204_12 : qD 204 12 (.iconst (-1)) 1 13 ∧ Int32.ofInt (-1) = (-1 : Int32) := by decide +kernel
theorem q204_13 : qJ 204 13 (.if_icmp .ne 9) 16 (9) 22 := by decide +kernel
theorem q204_16 : qD 204 16 (.aload_n 0) 1 17 ∧ ((0 : Fin 4) : Nat) = 0 := by decide +kernel
theorem q204_17 : qD 204 17 (.invokevirtual 128) 3 20 ∧ qI 204 128 178 1457 := by decide +kernel
theorem q204_20 : qD 204 20 (.pop) 1 21 := by decide +kernel
theorem q204_21 : qD 204 21 (.return_) 1 22 ∧ mR 204 = none := by decide +kernel
theorem q204_22 : qD 204 22 (.aload_n 0) 1 23 ∧ ((0 : Fin 4) : Nat) = 0 := by decide +kernel
theorem q204_23 : qD 204 23 (.dup) 1 24 := by decide +kernel
theorem q204_24 : qG 204 24 113 27 11 10 1275 0 := by decide +kernel
theorem q204_27 : qD 204 27 (.iconst 1) 1 28 ∧ Int32.ofInt (1) = (1 : Int32) := by decide +kernel
theorem q204_28 : qD 204 28 (.iadd) 1 29 := by decide +kernel
theorem q204_29 : qP 204 29 113 32 11 10 1275 0 := by decide +kernel
theorem q204_32 : qD 204 32 (.aload_n 0) 1 33 ∧ ((0 : Fin 4) : Nat) = 0 := by decide +kernel
theorem q204_33 : qG 204 33 55 36 11 24 1289 2 := by decide +kernel
theorem q204_36 : qD 204 36 (.iload_n 1) 1 37 ∧ ((1 : Fin 4) : Nat) = 1 := by decide +kernel
theorem q204_37 : qD 204 37 (.iload_n 2) 1 38 ∧ ((2 : Fin 4) : Nat) = 2 := by decide +kernel
theorem q204_38 : qD 204 38 (.iastore) 1 39 := by decide +kernel
theorem q204_39 : qD 204 39 (.aload_n 0) 1 40 ∧ ((0 : Fin 4) : Nat) = 0 := by decide +kernel
theorem q204_40 : qG 204 40 55 43 11 24 1289 2 := by decide +kernel
theorem q204_43 : qD 204 43 (.iload_n 1) 1 44 ∧ ((1 : Fin 4) : Nat) = 1 := by decide +kernel
theorem q204_44 : qD 204 44 (.iconst 1) 1 45 ∧ Int32.ofInt (1) = (1 : Int32) := by decide +kernel
theorem q204_45 : qD 204 45 (.iadd) 1 46 := by decide +kernel
theorem q204_46 : qD 204 46 (.iload_n 2) 1 47 ∧ ((2 : Fin 4) : Nat) = 2 := by decide +kernel
theorem q204_47 : qD 204 47 (.iconst 2) 1 48 ∧ Int32.ofInt (2) = (2 : Int32) := by decide +kernel
theorem q204_48 : qJ 204 48 (.if_icmp .ge 10) 51 (10) 58 := by decide +kernel
theorem q204_51 : qD 204 51 (.aload_n 0) 1 52 ∧ ((0 : Fin 4) : Nat) = 0 := by decide +kernel
theorem q204_52 : qD 204 52 (.invokevirtual 260) 3 55 ∧ qI 204 260 203 1579 := by decide +kernel
theorem q204_55 : qJ 204 55 (.goto 4) 58 (4) 59 := by decide +kernel
theorem q204_58 : qD 204 58 (.iconst (-1)) 1 59 ∧ Int32.ofInt (-1) = (-1 : Int32) := by decide +kernel
theorem q204_59 : qD 204 59 (.iastore) 1 60 := by decide +kernel
theorem q204_60 : qD 204 60 (.aload_n 0) 1 61 ∧ ((0 : Fin 4) : Nat) = 0 := by decide +kernel
theorem q204_61 : qG 204 61 55 64 11 24 1289 2 := by decide +kernel
theorem q204_64 : qD 204 64 (.iload_n 1) 1 65 ∧ ((1 : Fin 4) : Nat) = 1 := by decide +kernel
theorem q204_65 : qD 204 65 (.iconst 2) 1 66 ∧ Int32.ofInt (2) = (2 : Int32) := by decide +kernel
theorem q204_66 : qD 204 66 (.iadd) 1 67 := by decide +kernel
theorem q204_67 : qD 204 67 (.iconst (-1)) 1 68 ∧ Int32.ofInt (-1) = (-1 : Int32) := by decide +kernel
theorem q204_68 : qD 204 68 (.iastore) 1 69 := by decide +kernel
theorem q204_69 : qD 204 69 (.aload_n 0) 1 70 ∧ ((0 : Fin 4) : Nat) = 0 := by decide +kernel
theorem q204_70 : qG 204 70 122 73 11 11 1276 0 := by decide +kernel
theorem q204_73 : qD 204 73 (.iconst (-1)) 1 74 ∧ Int32.ofInt (-1) = (-1 : Int32) := by decide +kernel
theorem q204_74 : qJ 204 74 (.if_icmp .ne 20) 77 (20) 94 := by decide +kernel
theorem q204_77 : qD 204 77 (.iload_n 2) 1 78 ∧ ((2 : Fin 4) : Nat) = 2 := by decide +kernel
theorem q204_78 : qD 204 78 (.iconst 1) 1 79 ∧ Int32.ofInt (1) = (1 : Int32) := by decide +kernel
theorem q204_79 : qJ 204 79 (.if_icmp .ne 15) 82 (15) 94 := by decide +kernel
theorem q204_82 : qD 204 82 (.aload_n 0) 1 83 ∧ ((0 : Fin 4) : Nat) = 0 := by decide +kernel
theorem q204_83 : qG 204 83 55 86 11 24 1289 2 := by decide +kernel
theorem q204_86 : qD 204 86 (.iload_n 1) 1 87 ∧ ((1 : Fin 4) : Nat) = 1 := by decide +kernel
theorem q204_87 : qD 204 87 (.iconst 2) 1 88 ∧ Int32.ofInt (2) = (2 : Int32) := by decide +kernel
theorem q204_88 : qD 204 88 (.iadd) 1 89 := by decide +kernel
theorem q204_89 : qD 204 89 (.aload_n 0) 1 90 ∧ ((0 : Fin 4) : Nat) = 0 := by decide +kernel
theorem q204_90 : qD 204 90 (.invokevirtual 260) 3 93 ∧ qI 204 260 203 1579 := by decide +kernel
theorem q204_93 : qD 204 93 (.iastore) 1 94 := by decide +kernel
theorem q204_94 : qD 204 94 (.return_) 1 95 ∧ mR 204 = none := by decide +kernel
theorem q205_0 : qD 205 0 (.aload_n 0) 1 1 ∧ ((0 : Fin 4) : Nat) = 0 := by decide +kernel
theorem q205_1 : qD 205 1 (.aload_n 0) 1 2 ∧ ((0 : Fin 4) : Nat) = 0 := by decide +kernel
theorem q205_2 : qG 205 2 9 5 11 1 1266 2 := by decide +kernel
theorem q205_5 : qD 205 5 (.iconst 0) 1 6 ∧ Int32.ofInt (0) = (0 : Int32) := by decide +kernel
theorem q205_6 : qD 205 6 (.aload_n 0) 1 7 ∧ ((0 : Fin 4) : Nat) = 0 := by decide +kernel
theorem q205_7 : qG 205 7 103 10 11 6 1271 0 := by decide +kernel
theorem q205_10 : qD 205 10 (.invokevirtual 201) 3 13 ∧ qI 205 201 192 1442 := by decide +kernel
theorem q205_13 : qD 205 13 (.iconst 0) 1 14 ∧ Int32.ofInt (0) = (0 : Int32) := by decide +kernel
theorem q205_14 : qD 205 14 (.istore_n 1) 1 15 ∧ ((1 : Fin 4) : Nat) = 1 ∧ 1 < mL 205 := by decide +kernel
theorem q205_15 : qD 205 15 (.iconst 1) 1 16 ∧ Int32.ofInt (1) = (1 : Int32) := by decide +kernel
theorem q205_16 : qD 205 16 (.istore_n 2) 1 17 ∧ ((2 : Fin 4) : Nat) = 2 ∧ 2 < mL 205 := by decide +kernel
theorem q205_17 : qD 205 17 (.iload_n 2) 1 18 ∧ ((2 : Fin 4) : Nat) = 2 := by decide +kernel
theorem q205_18 : qJ 205 18 (.ifCond .eq 73) 21 (73) 91 := by decide +kernel
theorem q205_21 : qD 205 21 (.aload_n 0) 1 22 ∧ ((0 : Fin 4) : Nat) = 0 := by decide +kernel
theorem q205_22 : qD 205 22 (.iconst 3) 1 23 ∧ Int32.ofInt (3) = (3 : Int32) := by decide +kernel
theorem q205_23 : qD 205 23 (.bipush 64) 2 25 ∧ (Int8.ofInt (64)).toInt32 = (64 : Int32) := by decide +kernel
theorem q205_25 : qD 205 25 (.iload_n 1) 1 26 ∧ ((1 : Fin 4) : Nat) = 1 := by decide +kernel
theorem q205_26 : qD 205 26 (.iadd) 1 27 := by decide +kernel
theorem q205_27 : qD 205 27 (.imul) 1 28 := by decide +kernel
theorem q205_28 : qD 205 28 (.invokevirtual 263) 3 31 ∧ qI 205 263 204 1574 := by decide +kernel
theorem q205_31 : qD 205 31 (.aload_n 0) 1 32 ∧ ((0 : Fin 4) : Nat) = 0 := by decide +kernel
theorem q205_32 : qG 205 32 122 35 11 11 1276 0 := by decide +kernel
theorem q205_35 : qD 205 35 (.iconst (-1)) 1 36 ∧ Int32.ofInt (-1) = (-1 : Int32) := by decide +kernel
theorem q205_36 : qJ 205 36 (.if_icmp .eq 4) 39 (4) 40 := by decide +kernel
theorem q205_39 : qD 205 39 (.return_) 1 40 ∧ mR 205 = none := by decide +kernel
theorem q205_40 : qD 205 40 (.iinc 1 1) 3 43 ∧ 1 < mL 205 ∧ Int32.ofInt (1) = (1 : Int32) := by decide +kernel
theorem q205_43 : qD 205 43 (.aload_n 0) 1 44 ∧ ((0 : Fin 4) : Nat) = 0 := by decide +kernel
theorem q205_44 : qD 205 44 (.invokevirtual 132) 3 47 ∧ qI 205 132 177 1453 := by decide +kernel
theorem q205_47 : qD 205 47 (.bipush 59) 2 49 ∧ (Int8.ofInt (59)).toInt32 = (59 : Int32) := by decide +kernel
theorem q205_49 : qJ 205 49 (.if_icmp .ne 7) 52 (7) 56 := by decide +kernel
theorem q205_52 : qD 205 52 (.iconst 1) 1 53 ∧ Int32.ofInt (1) = (1 : Int32) := by decide +kernel
theorem q205_53 : qJ 205 53 (.goto 4) 56 (4) 57 := by decide +kernel
theorem q205_56 : qD 205 56 (.iconst 0) 1 57 ∧ Int32.ofInt (0) = (0 : Int32) := by decide +kernel
theorem q205_57 : qD 205 57 (.istore_n 2) 1 58 ∧ ((2 : Fin 4) : Nat) = 2 ∧ 2 < mL 205 := by decide +kernel
theorem q205_58 : qD 205 58 (.iload_n 2) 1 59 ∧ ((2 : Fin 4) : Nat) = 2 := by decide +kernel
theorem q205_59 : qJ 205 59 (.ifCond .eq 15) 62 (15) 74 := by decide +kernel
theorem q205_62 : qD 205 62 (.iload_n 1) 1 63 ∧ ((1 : Fin 4) : Nat) = 1 := by decide +kernel
theorem q205_63 : qD 205 63 (.bipush 16) 2 65 ∧ (Int8.ofInt (16)).toInt32 = (16 : Int32) := by decide +kernel
theorem q205_65 : qJ 205 65 (.if_icmp .ne 9) 68 (9) 74 := by decide +kernel
theorem q205_68 : qD 205 68 (.aload_n 0) 1 69 ∧ ((0 : Fin 4) : Nat) = 0 := by decide +kernel
theorem q205_69 : qD 205 69 (.invokevirtual 128) 3 72 ∧ qI 205 128 178 1457 := by decide +kernel
theorem q205_72 : qD 205 72 (.pop) 1 73 := by decide +kernel
theorem q205_73 : qD 205 73 (.return_) 1 74 ∧ mR 205 = none := by decide +kernel
theorem q205_74 : qD 205 74 (.iload_n 2) 1 75 ∧ ((2 : Fin 4) : Nat) = 2 := by decide +kernel
theorem q205_75 : qJ 205 75 (.ifCond .eq (-58)) 78 (-58) 17 := by decide +kernel
theorem q205_78 : qD 205 78 (.aload_n 0) 1 79 ∧ ((0 : Fin 4) : Nat) = 0 := by decide +kernel
theorem q205_79 : qD 205 79 (.dup) 1 80 := by decide +kernel
theorem q205_80 : qG 205 80 113 83 11 10 1275 0 := by decide +kernel
theorem q205_83 : qD 205 83 (.iconst 1) 1 84 ∧ Int32.ofInt (1) = (1 : Int32) := by decide +kernel
theorem q205_84 : qD 205 84 (.iadd) 1 85 := by decide +kernel
theorem q205_85 : qP 205 85 113 88 11 10 1275 0 := by decide +kernel
theorem q205_88 : qJ 205 88 (.goto (-71)) 91 (-71) 17 := by decide +kernel
theorem q205_91 : qD 205 91 (.aload_n 0) 1 92 ∧ ((0 : Fin 4) : Nat) = 0 := by decide +kernel
theorem q205_92 : qG 205 92 58 95 11 25 1290 2 := by decide +kernel
theorem q205_95 : qD 205 95 (.iconst 4) 1 96 ∧ Int32.ofInt (4) = (4 : Int32) := by decide +kernel
theorem q205_96 : qD 205 96 (.iload_n 1) 1 97 ∧ ((1 : Fin 4) : Nat) = 1 := by decide +kernel
theorem q205_97 : qD 205 97 (.iastore) 1 98 := by decide +kernel
theorem q205_98 : qD 205 98 (.aload_n 0) 1 99 ∧ ((0 : Fin 4) : Nat) = 0 := by decide +kernel
theorem q205_99 : qD 205 99 (.invokevirtual 132) 3 102 ∧ qI 205 132 177 1453 := by decide +kernel
theorem q205_102 : qD 205 102 (.iconst (-1)) 1 103 ∧ Int32.ofInt (-1) = (-1 : Int32) := by decide +kernel
theorem q205_103 : qJ 205 103 (.if_icmp .eq 8) 106 (8) 111 := by decide +kernel
theorem q205_106 : qD 205 106 (.aload_n 0) 1 107 ∧ ((0 : Fin 4) : Nat) = 0 := by decide +kernel
theorem q205_107 : qD 205 107 (.invokevirtual 128) 3 110 ∧ qI 205 128 178 1457 := by decide +kernel
theorem q205_110 : qD 205 110 (.pop) 1 111 := by decide +kernel
theorem q205_111 : qD 205 111 (.return_) 1 112 ∧ mR 205 = none := by decide +kernel
theorem q206_0 : qD 206 0 (.aload_n 0) 1 1 ∧ ((0 : Fin 4) : Nat) = 0 := by decide +kernel
theorem q206_1 : qD 206 1 (.iconst 0) 1 2 ∧ Int32.ofInt (0) = (0 : Int32) := by decide +kernel
theorem q206_2 : qP 206 2 90 5 11 0 1265 0 := by decide +kernel
theorem q206_5 : qD 206 5 (.iload_n 1) 1 6 ∧ ((1 : Fin 4) : Nat) = 1 := by decide +kernel
theorem q206_6 : qD 206 6 (.i2l) 1 7 := by decide +kernel
theorem q206_7 : qD 206 7 (.lconst 0) 1 8 ∧ Int64.ofNat ((0 : Fin 2) : Nat) = 0 := by decide +kernel
theorem q206_8 : qD 206 8 (.ldc2_w 266) 3 11 ∧ inG 1434 (.constantLong (mN 206).cls 266 (2)) := by decide +kernel
theorem q206_11 : qD 206 11 (.invokestatic 211) 3 14 ∧ qI 206 211 170 1435 := by decide +kernel
theorem q206_14 : qJ 206 14 (.ifCond .ne 6) 17 (6) 20 := by decide +kernel
theorem q206_17 : qD 206 17 (.bipush (-2)) 2 19 ∧ (Int8.ofInt (-2)).toInt32 = (-2 : Int32) := by decide +kernel
theorem q206_19 : qD 206 19 (.ireturn) 1 20 ∧ mR 206 = some .int := by decide +kernel
theorem q206_20 : qD 206 20 (.iload_n 1) 1 21 ∧ ((1 : Fin 4) : Nat) = 1 := by decide +kernel
theorem q206_21 : qJ 206 21 (.ifCond .ne 7) 24 (7) 28 := by decide +kernel
theorem q206_24 : qD 206 24 (.aload_n 0) 1 25 ∧ ((0 : Fin 4) : Nat) = 0 := by decide +kernel
theorem q206_25 : qD 206 25 (.invokevirtual 268) 3 28 ∧ qI 206 268 202 1438 := by decide +kernel
theorem q206_28 : qD 206 28 (.iload_n 1) 1 29 ∧ ((1 : Fin 4) : Nat) = 1 := by decide +kernel
theorem q206_29 : qD 206 29 (.iconst 1) 1 30 ∧ Int32.ofInt (1) = (1 : Int32) := by decide +kernel
theorem q206_30 : qJ 206 30 (.if_icmp .ne 16) 33 (16) 46 := by decide +kernel
theorem q206_33 : qD 206 33 (.aload_n 0) 1 34 ∧ ((0 : Fin 4) : Nat) = 0 := by decide +kernel
theorem q206_34 : qD 206 34 (.aload_n 0) 1 35 ∧ ((0 : Fin 4) : Nat) = 0 := by decide +kernel
theorem q206_35 : qG 206 35 9 38 11 1 1266 2 := by decide +kernel
theorem q206_38 : qD 206 38 (.iconst 0) 1 39 ∧ Int32.ofInt (0) = (0 : Int32) := by decide +kernel
theorem q206_39 : qD 206 39 (.aload_n 0) 1 40 ∧ ((0 : Fin 4) : Nat) = 0 := by decide +kernel
theorem q206_40 : qG 206 40 103 43 11 6 1271 0 := by decide +kernel
theorem q206_43 : qD 206 43 (.invokevirtual 271) 3 46 ∧ qI 206 271 193 1513 := by decide +kernel
theorem q206_46 : qD 206 46 (.iload_n 1) 1 47 ∧ ((1 : Fin 4) : Nat) = 1 := by decide +kernel
theorem q206_47 : qD 206 47 (.iconst 2) 1 48 ∧ Int32.ofInt (2) = (2 : Int32) := by decide +kernel
theorem q206_48 : qJ 206 48 (.if_icmp .ne 7) 51 (7) 55 := by decide +kernel
theorem q206_51 : qD 206 51 (.aload_n 0) 1 52 ∧ ((0 : Fin 4) : Nat) = 0 := by decide +kernel
theorem q206_52 : qD 206 52 (.invokevirtual 274) 3 55 ∧ qI 206 274 205 1570 := by decide +kernel
theorem q206_55 : qD 206 55 (.aload_n 0) 1 56 ∧ ((0 : Fin 4) : Nat) = 0 := by decide +kernel
theorem q206_56 : qG 206 56 122 59 11 11 1276 0 := by decide +kernel
theorem q206_59 : qD 206 59 (.ireturn) 1 60 ∧ mR 206 = some .int := by decide +kernel
theorem q207_0 : qD 207 0 (.aload_n 0) 1 1 ∧ ((0 : Fin 4) : Nat) = 0 := by decide +kernel
theorem q207_1 : qD 207 1 (.iconst 0) 1 2 ∧ Int32.ofInt (0) = (0 : Int32) := by decide +kernel
theorem q207_2 : qP 207 2 90 5 11 0 1265 0 := by decide +kernel
theorem q207_5 : qD 207 5 (.iload_n 1) 1 6 ∧ ((1 : Fin 4) : Nat) = 1 := by decide +kernel
theorem q207_6 : qD 207 6 (.i2l) 1 7 := by decide +kernel
theorem q207_7 : qD 207 7 (.lconst 0) 1 8 ∧ Int64.ofNat ((0 : Fin 2) : Nat) = 0 := by decide +kernel
theorem q207_8 : qD 207 8 (.ldc2_w 266) 3 11 ∧ inG 1434 (.constantLong (mN 207).cls 266 (2)) := by decide +kernel
theorem q207_11 : qD 207 11 (.invokestatic 211) 3 14 ∧ qI 207 211 170 1435 := by decide +kernel
theorem q207_14 : qJ 207 14 (.ifCond .eq 38) 17 (38) 52 := by decide +kernel
theorem q207_17 : qD 207 17 (.iload_n 1) 1 18 ∧ ((1 : Fin 4) : Nat) = 1 := by decide +kernel
theorem q207_18 : qD 207 18 (.iconst 1) 1 19 ∧ Int32.ofInt (1) = (1 : Int32) := by decide +kernel
theorem q207_19 : qJ 207 19 (.if_icmp .ne 11) 22 (11) 30 := by decide +kernel
theorem q207_22 : qD 207 22 (.aload_n 0) 1 23 ∧ ((0 : Fin 4) : Nat) = 0 := by decide +kernel
theorem q207_23 : qG 207 23 277 26 11 7 1272 0 := by decide +kernel
theorem q207_26 : qD 207 26 (.iconst 4) 1 27 ∧ Int32.ofInt (4) = (4 : Int32) := by decide +kernel
theorem q207_27 : qJ 207 27 (.if_icmp .eq 25) 30 (25) 52 := by decide +kernel
theorem q207_30 : qD 207 30 (.iload_n 1) 1 31 ∧ ((1 : Fin 4) : Nat) = 1 := by decide +kernel
theorem q207_31 : qD 207 31 (.iconst 2) 1 32 ∧ Int32.ofInt (2) = (2 : Int32) := by decide +kernel
theorem q207_32 : qJ 207 32 (.if_icmp .ne 11) 35 (11) 43 := by decide +kernel
theorem q207_35 : qD 207 35 (.aload_n 0) 1 36 ∧ ((0 : Fin 4) : Nat) = 0 := by decide +kernel
theorem q207_36 : qG 207 36 280 39 11 30 1295 0 := by decide +kernel
theorem q207_39 : qD 207 39 (.iconst 4) 1 40 ∧ Int32.ofInt (4) = (4 : Int32) := by decide +kernel
theorem q207_40 : qJ 207 40 (.if_icmp .eq 12) 43 (12) 52 := by decide +kernel
theorem q207_43 : qD 207 43 (.aload_n 0) 1 44 ∧ ((0 : Fin 4) : Nat) = 0 := by decide +kernel
theorem q207_44 : qD 207 44 (.iload_n 1) 1 45 ∧ ((1 : Fin 4) : Nat) = 1 := by decide +kernel
theorem q207_45 : qD 207 45 (.invokevirtual 283) 3 48 ∧ qI 207 283 206 1587 := by decide +kernel
theorem q207_48 : qD 207 48 (.iconst (-1)) 1 49 ∧ Int32.ofInt (-1) = (-1 : Int32) := by decide +kernel
theorem q207_49 : qJ 207 49 (.if_icmp .eq 5) 52 (5) 54 := by decide +kernel
theorem q207_52 : qD 207 52 (.iconst (-1)) 1 53 ∧ Int32.ofInt (-1) = (-1 : Int32) := by decide +kernel
theorem q207_53 : qD 207 53 (.ireturn) 1 54 ∧ mR 207 = some .int := by decide +kernel
theorem q207_54 : qD 207 54 (.aload_n 0) 1 55 ∧ ((0 : Fin 4) : Nat) = 0 := by decide +kernel
theorem q207_55 : qG 207 55 103 58 11 6 1271 0 := by decide +kernel
theorem q207_58 : qD 207 58 (.istore_n 2) 1 59 ∧ ((2 : Fin 4) : Nat) = 2 ∧ 2 < mL 207 := by decide +kernel
theorem q207_59 : qD 207 59 (.aload_n 0) 1 60 ∧ ((0 : Fin 4) : Nat) = 0 := by decide +kernel
theorem q207_60 : qD 207 60 (.iconst 0) 1 61 ∧ Int32.ofInt (0) = (0 : Int32) := by decide +kernel
theorem q207_61 : qP 207 61 103 64 11 6 1271 0 := by decide +kernel
theorem q207_64 : qD 207 64 (.iload_n 1) 1 65 ∧ ((1 : Fin 4) : Nat) = 1 := by decide +kernel
theorem q207_65 : qD 207 65 (.iconst 1) 1 66 ∧ Int32.ofInt (1) = (1 : Int32) := by decide +kernel
theorem q207_66 : qJ 207 66 (.if_icmp .ne 64) 69 (64) 130 := by decide +kernel
theorem q207_69 : qD 207 69 (.iconst 0) 1 70 ∧ Int32.ofInt (0) = (0 : Int32) := by decide +kernel
theorem q207_70 : qD 207 70 (.istore_n 3) 1 71 ∧ ((3 : Fin 4) : Nat) = 3 ∧ 3 < mL 207 := by decide +kernel
theorem q207_71 : qD 207 71 (.iload_n 3) 1 72 ∧ ((3 : Fin 4) : Nat) = 3 := by decide +kernel
theorem q207_72 : qD 207 72 (.iload_n 2) 1 73 ∧ ((2 : Fin 4) : Nat) = 2 := by decide +kernel
theorem q207_73 : qJ 207 73 (.if_icmp .ge 30) 76 (30) 103 := by decide +kernel
theorem q207_76 : qD 207 76 (.aload_n 0) 1 77 ∧ ((0 : Fin 4) : Nat) = 0 := by decide +kernel
theorem q207_77 : qG 207 77 13 80 11 2 1267 2 := by decide +kernel
theorem q207_80 : qD 207 80 (.sipush 240) 3 83 ∧ (Int16.ofInt (240)).toInt32 = (240 : Int32) := by decide +kernel
theorem q207_83 : qD 207 83 (.aload_n 0) 1 84 ∧ ((0 : Fin 4) : Nat) = 0 := by decide +kernel
theorem q207_84 : qG 207 84 277 87 11 7 1272 0 := by decide +kernel
theorem q207_87 : qD 207 87 (.imul) 1 88 := by decide +kernel
theorem q207_88 : qD 207 88 (.iload_n 3) 1 89 ∧ ((3 : Fin 4) : Nat) = 3 := by decide +kernel
theorem q207_89 : qD 207 89 (.iadd) 1 90 := by decide +kernel
theorem q207_90 : qD 207 90 (.aload_n 0) 1 91 ∧ ((0 : Fin 4) : Nat) = 0 := by decide +kernel
theorem q207_91 : qG 207 91 9 94 11 1 1266 2 := by decide +kernel
theorem q207_94 : qD 207 94 (.iload_n 3) 1 95 ∧ ((3 : Fin 4) : Nat) = 3 := by decide +kernel
theorem q207_95 : qD 207 95 (.baload) 1 96 := by decide +kernel
theorem q207_96 : qD 207 96 (.bastore) 1 97 := by decide +kernel
theorem q207_97 : qD 207 97 (.iinc 3 1) 3 100 ∧ 3 < mL 207 ∧ Int32.ofInt (1) = (1 : Int32) := by decide +kernel
theorem q207_100 : qJ 207 100 (.goto (-29)) 103 (-29) 71 := by decide +kernel
theorem q207_103 : qD 207 103 (.aload_n 0) 1 104 ∧ ((0 : Fin 4) : Nat) = 0 := by decide +kernel
theorem q207_104 : qG 207 104 16 107 11 3 1268 2 := by decide +kernel
theorem q207_107 : qD 207 107 (.aload_n 0) 1 108 ∧ ((0 : Fin 4) : Nat) = 0 := by decide +kernel
theorem q207_108 : qG 207 108 277 111 11 7 1272 0 := by decide +kernel
theorem q207_111 : qD 207 111 (.iload_n 2) 1 112 ∧ ((2 : Fin 4) : Nat) = 2 := by decide +kernel
theorem q207_112 : qD 207 112 (.iastore) 1 113 := by decide +kernel
theorem q207_113 : qD 207 113 (.aload_n 0) 1 114 ∧ ((0 : Fin 4) : Nat) = 0 := by decide +kernel
theorem q207_114 : qD 207 114 (.dup) 1 115 := by decide +kernel
theorem q207_115 : qG 207 115 277 118 11 7 1272 0 := by decide +kernel
theorem q207_118 : qD 207 118 (.iconst 1) 1 119 ∧ Int32.ofInt (1) = (1 : Int32) := by decide +kernel
theorem q207_119 : qD 207 119 (.iadd) 1 120 := by decide +kernel
theorem q207_120 : qP 207 120 277 123 11 7 1272 0 := by decide +kernel
theorem q207_123 : qD 207 123 (.aload_n 0) 1 124 ∧ ((0 : Fin 4) : Nat) = 0 := by decide +kernel
theorem q207_124 : qG 207 124 277 127 11 7 1272 0 := by decide +kernel
theorem q207_127 : qD 207 127 (.iconst 1) 1 128 ∧ Int32.ofInt (1) = (1 : Int32) := by decide +kernel
theorem q207_128 : qD 207 128 (.isub) 1 129 := by decide +kernel
theorem q207_129 : qD 207 129 (.ireturn) 1 130 ∧ mR 207 = some .int := by decide +kernel
theorem q207_130 : qD 207 130 (.iload_n 1) 1 131 ∧ ((1 : Fin 4) : Nat) = 1 := by decide +kernel
theorem q207_131 : qD 207 131 (.iconst 2) 1 132 ∧ Int32.ofInt (2) = (2 : Int32) := by decide +kernel
theorem q207_132 : qJ 207 132 (.if_icmp .ne 73) 135 (73) 205 := by decide +kernel
theorem q207_135 : qD 207 135 (.iconst 0) 1 136 ∧ Int32.ofInt (0) = (0 : Int32) := by decide +kernel
theorem q207_136 : qD 207 136 (.istore_n 3) 1 137 ∧ ((3 : Fin 4) : Nat) = 3 ∧ 3 < mL 207 := by decide +kernel
theorem q207_137 : qD 207 137 (.iload_n 3) 1 138 ∧ ((3 : Fin 4) : Nat) = 3 := by decide +kernel
theorem q207_138 : qD 207 138 (.bipush 48) 2 140 ∧ (Int8.ofInt (48)).toInt32 = (48 : Int32) := by decide +kernel
theorem q207_140 : qJ 207 140 (.if_icmp .ge 33) 143 (33) 173 := by decide +kernel
theorem q207_143 : qD 207 143 (.aload_n 0) 1 144 ∧ ((0 : Fin 4) : Nat) = 0 := by decide +kernel
theorem q207_144 : qG 207 144 55 147 11 24 1289 2 := by decide +kernel
theorem q207_147 : qD 207 147 (.bipush 48) 2 149 ∧ (Int8.ofInt (48)).toInt32 = (48 : Int32) := by decide +kernel
theorem q207_149 : qD 207 149 (.aload_n 0) 1 150 ∧ ((0 : Fin 4) : Nat) = 0 := by decide +kernel
theorem q207_150 : qG 207 150 280 153 11 30 1295 0 := by decide +kernel
theorem q207_153 : qD 207 153 (.imul) 1 154 := by decide +kernel
theorem q207_154 : qD 207 154 (.iload_n 3) 1 155 ∧ ((3 : Fin 4) : Nat) = 3 := by decide +kernel
theorem q207_155 : qD 207 155 (.iadd) 1 156 := by decide +kernel
theorem q207_156 : qD 207 156 (.aload_n 0) 1 157 ∧ ((0 : Fin 4) : Nat) = 0 := by decide +kernel
theorem q207_157 : qG 207 157 55 160 11 24 1289 2 := by decide +kernel
theorem q207_160 : qD 207 160 (.sipush 192) 3 163 ∧ (Int16.ofInt (192)).toInt32 = (192 : Int32) := by decide +kernel
theorem q207_163 : qD 207 163 (.iload_n 3) 1 164 ∧ ((3 : Fin 4) : Nat) = 3 := by decide +kernel
theorem q207_164 : qD 207 164 (.iadd) 1 165 := by decide +kernel
theorem q207_165 : qD 207 165 (.iaload) 1 166 := by decide +kernel
theorem q207_166 : qD 207 166 (.iastore) 1 167 := by decide +kernel
theorem q207_167 : qD 207 167 (.iinc 3 1) 3 170 ∧ 3 < mL 207 ∧ Int32.ofInt (1) = (1 : Int32) := by decide +kernel
theorem q207_170 : qJ 207 170 (.goto (-33)) 173 (-33) 137 := by decide +kernel
theorem q207_173 : qD 207 173 (.aload_n 0) 1 174 ∧ ((0 : Fin 4) : Nat) = 0 := by decide +kernel
theorem q207_174 : qG 207 174 58 177 11 25 1290 2 := by decide +kernel
theorem q207_177 : qD 207 177 (.aload_n 0) 1 178 ∧ ((0 : Fin 4) : Nat) = 0 := by decide +kernel
theorem q207_178 : qG 207 178 280 181 11 30 1295 0 := by decide +kernel
theorem q207_181 : qD 207 181 (.aload_n 0) 1 182 ∧ ((0 : Fin 4) : Nat) = 0 := by decide +kernel
theorem q207_182 : qG 207 182 58 185 11 25 1290 2 := by decide +kernel
theorem q207_185 : qD 207 185 (.iconst 4) 1 186 ∧ Int32.ofInt (4) = (4 : Int32) := by decide +kernel
theorem q207_186 : qD 207 186 (.iaload) 1 187 := by decide +kernel
theorem q207_187 : qD 207 187 (.iastore) 1 188 := by decide +kernel
theorem q207_188 : qD 207 188 (.aload_n 0) 1 189 ∧ ((0 : Fin 4) : Nat) = 0 := by decide +kernel
theorem q207_189 : qD 207 189 (.dup) 1 190 := by decide +kernel
theorem q207_190 : qG 207 190 280 193 11 30 1295 0 := by decide +kernel
theorem q207_193 : qD 207 193 (.iconst 1) 1 194 ∧ Int32.ofInt (1) = (1 : Int32) := by decide +kernel
theorem q207_194 : qD 207 194 (.iadd) 1 195 := by decide +kernel
theorem q207_195 : qP 207 195 280 198 11 30 1295 0 := by decide +kernel
theorem q207_198 : qD 207 198 (.aload_n 0) 1 199 ∧ ((0 : Fin 4) : Nat) = 0 := by decide +kernel
theorem q207_199 : qG 207 199 280 202 11 30 1295 0 := by decide +kernel
theorem q207_202 : qD 207 202 (.iconst 1) 1 203 ∧ Int32.ofInt (1) = (1 : Int32) := by decide +kernel
theorem q207_203 : qD 207 203 (.isub) 1 204 := by decide +kernel
theorem q207_204 : qD 207 204 (.ireturn) 1 205 ∧ mR 207 = some .int := by decide +kernel
theorem q207_205 : qD 207 205 (.aload_n 0) 1 206 ∧ ((0 : Fin 4) : Nat) = 0 := by decide +kernel
theorem q207_206 : qD 207 206 (.aload_n 0) 1 207 ∧ ((0 : Fin 4) : Nat) = 0 := by decide +kernel
theorem q207_207 : qG 207 207 239 210 11 28 1293 0 := by decide +kernel
theorem q207_210 : qP 207 210 285 213 11 26 1291 0 := by decide +kernel
theorem q207_213 : qD 207 213 (.aload_n 0) 1 214 ∧ ((0 : Fin 4) : Nat) = 0 := by decide +kernel
theorem q207_214 : qD 207 214 (.aload_n 0) 1 215 ∧ ((0 : Fin 4) : Nat) = 0 := by decide +kernel
theorem q207_215 : qG 207 215 242 218 11 29 1294 0 := by decide +kernel
theorem q207_218 : qP 207 218 288 221 11 27 1292 0 := by decide +kernel
theorem q207_221 : qD 207 221 (.iconst 0) 1 222 ∧ Int32.ofInt (0) = (0 : Int32) := by decide +kernel
theorem q207_222 : qD 207 222 (.istore_n 3) 1 223 ∧ ((3 : Fin 4) : Nat) = 3 ∧ 3 < mL 207 := by decide +kernel
theorem q207_223 : qD 207 223 (.iload_n 3) 1 224 ∧ ((3 : Fin 4) : Nat) = 3 := by decide +kernel
theorem q207_224 : qD 207 224 (.iconst 4) 1 225 ∧ Int32.ofInt (4) = (4 : Int32) := by decide +kernel
theorem q207_225 : qJ 207 225 (.if_icmp .ge 21) 228 (21) 246 := by decide +kernel
theorem q207_228 : qD 207 228 (.aload_n 0) 1 229 ∧ ((0 : Fin 4) : Nat) = 0 := by decide +kernel
theorem q207_229 : qG 207 229 37 232 11 18 1283 2 := by decide +kernel
theorem q207_232 : qD 207 232 (.iload_n 3) 1 233 ∧ ((3 : Fin 4) : Nat) = 3 := by decide +kernel
theorem q207_233 : qD 207 233 (.aload_n 0) 1 234 ∧ ((0 : Fin 4) : Nat) = 0 := by decide +kernel
theorem q207_234 : qG 207 234 40 237 11 19 1284 2 := by decide +kernel
theorem q207_237 : qD 207 237 (.iload_n 3) 1 238 ∧ ((3 : Fin 4) : Nat) = 3 := by decide +kernel
theorem q207_238 : qD 207 238 (.iaload) 1 239 := by decide +kernel
theorem q207_239 : qD 207 239 (.iastore) 1 240 := by decide +kernel
theorem q207_240 : qD 207 240 (.iinc 3 1) 3 243 ∧ 3 < mL 207 ∧ Int32.ofInt (1) = (1 : Int32) := by decide +kernel
theorem q207_243 : qJ 207 243 (.goto (-20)) 246 (-20) 223 := by decide +kernel
theorem q207_246 : qD 207 246 (.iconst 0) 1 247 ∧ Int32.ofInt (0) = (0 : Int32) := by decide +kernel
theorem q207_247 : qD 207 247 (.istore_n 3) 1 248 ∧ ((3 : Fin 4) : Nat) = 3 ∧ 3 < mL 207 := by decide +kernel
theorem q207_248 : qD 207 248 (.iload_n 3) 1 249 ∧ ((3 : Fin 4) : Nat) = 3 := by decide +kernel
theorem q207_249 : qD 207 249 (.bipush 35) 2 251 ∧ (Int8.ofInt (35)).toInt32 = (35 : Int32) := by decide +kernel
theorem q207_251 : qJ 207 251 (.if_icmp .ge 21) 254 (21) 272 := by decide +kernel
theorem q207_254 : qD 207 254 (.aload_n 0) 1 255 ∧ ((0 : Fin 4) : Nat) = 0 := by decide +kernel
theorem q207_255 : qG 207 255 43 258 11 20 1285 2 := by decide +kernel
theorem q207_258 : qD 207 258 (.iload_n 3) 1 259 ∧ ((3 : Fin 4) : Nat) = 3 := by decide +kernel
theorem q207_259 : qD 207 259 (.aload_n 0) 1 260 ∧ ((0 : Fin 4) : Nat) = 0 := by decide +kernel
theorem q207_260 : qG 207 260 46 263 11 21 1286 2 := by decide +kernel
theorem q207_263 : qD 207 263 (.iload_n 3) 1 264 ∧ ((3 : Fin 4) : Nat) = 3 := by decide +kernel
theorem q207_264 : qD 207 264 (.iaload) 1 265 := by decide +kernel
theorem q207_265 : qD 207 265 (.iastore) 1 266 := by decide +kernel
theorem q207_266 : qD 207 266 (.iinc 3 1) 3 269 ∧ 3 < mL 207 ∧ Int32.ofInt (1) = (1 : Int32) := by decide +kernel
theorem q207_269 : qJ 207 269 (.goto (-21)) 272 (-21) 248 := by decide +kernel
theorem q207_272 : qD 207 272 (.iconst 0) 1 273 ∧ Int32.ofInt (0) = (0 : Int32) := by decide +kernel
theorem q207_273 : qD 207 273 (.istore_n 3) 1 274 ∧ ((3 : Fin 4) : Nat) = 3 ∧ 3 < mL 207 := by decide +kernel
theorem q207_274 : qD 207 274 (.iload_n 3) 1 275 ∧ ((3 : Fin 4) : Nat) = 3 := by decide +kernel
theorem q207_275 : qD 207 275 (.bipush 12) 2 277 ∧ (Int8.ofInt (12)).toInt32 = (12 : Int32) := by decide +kernel
theorem q207_277 : qJ 207 277 (.if_icmp .ge 21) 280 (21) 298 := by decide +kernel
theorem q207_280 : qD 207 280 (.aload_n 0) 1 281 ∧ ((0 : Fin 4) : Nat) = 0 := by decide +kernel
theorem q207_281 : qG 207 281 49 284 11 22 1287 2 := by decide +kernel
theorem q207_284 : qD 207 284 (.iload_n 3) 1 285 ∧ ((3 : Fin 4) : Nat) = 3 := by decide +kernel
theorem q207_285 : qD 207 285 (.aload_n 0) 1 286 ∧ ((0 : Fin 4) : Nat) = 0 := by decide +kernel
theorem q207_286 : qG 207 286 52 289 11 23 1288 2 := by decide +kernel
theorem q207_289 : qD 207 289 (.iload_n 3) 1 290 ∧ ((3 : Fin 4) : Nat) = 3 := by decide +kernel
theorem q207_290 : qD 207 290 (.iaload) 1 291 := by decide +kernel
theorem q207_291 : qD 207 291 (.iastore) 1 292 := by decide +kernel
theorem q207_292 : qD 207 292 (.iinc 3 1) 3 295 ∧ 3 < mL 207 ∧ Int32.ofInt (1) = (1 : Int32) := by decide +kernel
theorem q207_295 : qJ 207 295 (.goto (-21)) 298 (-21) 274 := by decide +kernel
theorem q207_298 : qD 207 298 (.iconst 0) 1 299 ∧ Int32.ofInt (0) = (0 : Int32) := by decide +kernel
theorem q207_299 : qD 207 299 (.istore_n 3) 1 300 ∧ ((3 : Fin 4) : Nat) = 3 ∧ 3 < mL 207 := by decide +kernel
theorem q207_300 : qD 207 300 (.iload_n 3) 1 301 ∧ ((3 : Fin 4) : Nat) = 3 := by decide +kernel
theorem q207_301 : qD 207 301 (.sipush 214) 3 304 ∧ (Int16.ofInt (214)).toInt32 = (214 : Int32) := by decide +kernel
theorem q207_304 : qJ 207 304 (.if_icmp .ge 16) 307 (16) 320 := by decide +kernel
theorem q207_307 : qD 207 307 (.aload_n 0) 1 308 ∧ ((0 : Fin 4) : Nat) = 0 := by decide +kernel
theorem q207_308 : qG 207 308 61 311 11 32 1297 2 := by decide +kernel
theorem q207_311 : qD 207 311 (.iload_n 3) 1 312 ∧ ((3 : Fin 4) : Nat) = 3 := by decide +kernel
theorem q207_312 : qD 207 312 (.iconst 0) 1 313 ∧ Int32.ofInt (0) = (0 : Int32) := by decide +kernel
theorem q207_313 : qD 207 313 (.iastore) 1 314 := by decide +kernel
theorem q207_314 : qD 207 314 (.iinc 3 1) 3 317 ∧ 3 < mL 207 ∧ Int32.ofInt (1) = (1 : Int32) := by decide +kernel
theorem q207_317 : qJ 207 317 (.goto (-17)) 320 (-17) 300 := by decide +kernel
theorem q207_320 : qD 207 320 (.iconst 0) 1 321 ∧ Int32.ofInt (0) = (0 : Int32) := by decide +kernel
theorem q207_321 : qD 207 321 (.istore_n 3) 1 322 ∧ ((3 : Fin 4) : Nat) = 3 ∧ 3 < mL 207 := by decide +kernel
theorem q207_322 : qD 207 322 (.iload_n 3) 1 323 ∧ ((3 : Fin 4) : Nat) = 3 := by decide +kernel
theorem q207_323 : qD 207 323 (.aload_n 0) 1 324 ∧ ((0 : Fin 4) : Nat) = 0 := by decide +kernel
theorem q207_324 : qG 207 324 285 327 11 26 1291 0 := by decide +kernel
theorem q207_327 : qJ 207 327 (.if_icmp .ge 36) 330 (36) 363 := by decide +kernel
theorem q207_330 : qD 207 330 (.aload_n 0) 1 331 ∧ ((0 : Fin 4) : Nat) = 0 := by decide +kernel
theorem q207_331 : qG 207 331 61 334 11 32 1297 2 := by decide +kernel
theorem q207_334 : qD 207 334 (.iconst 4) 1 335 ∧ Int32.ofInt (4) = (4 : Int32) := by decide +kernel
theorem q207_335 : qD 207 335 (.iload_n 3) 1 336 ∧ ((3 : Fin 4) : Nat) = 3 := by decide +kernel
theorem q207_336 : qD 207 336 (.imul) 1 337 := by decide +kernel
theorem q207_337 : qD 207 337 (.iconst 0) 1 338 ∧ Int32.ofInt (0) = (0 : Int32) := by decide +kernel
theorem q207_338 : qD 207 338 (.iadd) 1 339 := by decide +kernel
theorem q207_339 : qD 207 339 (.iload_n 3) 1 340 ∧ ((3 : Fin 4) : Nat) = 3 := by decide +kernel
theorem q207_340 : qD 207 340 (.iastore) 1 341 := by decide +kernel
theorem q207_341 : qD 207 341 (.aload_n 0) 1 342 ∧ ((0 : Fin 4) : Nat) = 0 := by decide +kernel
theorem q207_342 : qG 207 342 61 345 11 32 1297 2 := by decide +kernel
theorem q207_345 : qD 207 345 (.iconst 4) 1 346 ∧ Int32.ofInt (4) = (4 : Int32) := by decide +kernel
theorem q207_346 : qD 207 346 (.iload_n 3) 1 347 ∧ ((3 : Fin 4) : Nat) = 3 := by decide +kernel
theorem q207_347 : qD 207 347 (.imul) 1 348 := by decide +kernel
theorem q207_348 : qD 207 348 (.iconst 1) 1 349 ∧ Int32.ofInt (1) = (1 : Int32) := by decide +kernel
theorem q207_349 : qD 207 349 (.iadd) 1 350 := by decide +kernel
theorem q207_350 : qD 207 350 (.aload_n 0) 1 351 ∧ ((0 : Fin 4) : Nat) = 0 := by decide +kernel
theorem q207_351 : qD 207 351 (.iload_n 3) 1 352 ∧ ((3 : Fin 4) : Nat) = 3 := by decide +kernel
theorem q207_352 : qD 207 352 (.iconst 4) 1 353 ∧ Int32.ofInt (4) = (4 : Int32) := by decide +kernel
theorem q207_353 : qD 207 353 (.invokevirtual 291) 3 356 ∧ qI 207 291 211 1588 := by decide +kernel
theorem q207_356 : qD 207 356 (.iastore) 1 357 := by decide +kernel
theorem q207_357 : qD 207 357 (.iinc 3 1) 3 360 ∧ 3 < mL 207 ∧ Int32.ofInt (1) = (1 : Int32) := by decide +kernel
theorem q207_360 : qJ 207 360 (.goto (-38)) 363 (-38) 322 := by decide +kernel
theorem q207_363 : qD 207 363 (.aload_n 0) 1 364 ∧ ((0 : Fin 4) : Nat) = 0 := by decide +kernel
theorem q207_364 : qD 207 364 (.iconst 0) 1 365 ∧ Int32.ofInt (0) = (0 : Int32) := by decide +kernel
theorem q207_365 : qP 207 365 294 368 11 45 1310 0 := by decide +kernel
theorem q207_368 : qD 207 368 (.aload_n 0) 1 369 ∧ ((0 : Fin 4) : Nat) = 0 := by decide +kernel
theorem q207_369 : qD 207 369 (.iconst 0) 1 370 ∧ Int32.ofInt (0) = (0 : Int32) := by decide +kernel
theorem q207_370 : qP 207 370 297 373 11 38 1303 0 := by decide +kernel
theorem q207_373 : qD 207 373 (.aload_n 0) 1 374 ∧ ((0 : Fin 4) : Nat) = 0 := by decide +kernel
theorem q207_374 : qD 207 374 (.iconst 0) 1 375 ∧ Int32.ofInt (0) = (0 : Int32) := by decide +kernel
theorem q207_375 : qP 207 375 300 378 11 47 1312 0 := by decide +kernel
theorem q207_378 : qD 207 378 (.aload_n 0) 1 379 ∧ ((0 : Fin 4) : Nat) = 0 := by decide +kernel
theorem q207_379 : qG 207 379 285 382 11 26 1291 0 := by decide +kernel
theorem q207_382 : qD 207 382 (.ireturn) 1 383 ∧ mR 207 = some .int := by decide +kernel
theorem q208_0 : qD 208 0 (.bipush 34) 2 2 ∧ (Int8.ofInt (34)).toInt32 = (34 : Int32) := by decide +kernel
theorem q208_2 : qD 208 2 (.iconst 3) 1 3 ∧ Int32.ofInt (3) = (3 : Int32) := by decide +kernel
theorem q208_3 : qD 208 3 (.aload_n 0) 1 4 ∧ ((0 : Fin 4) : Nat) = 0 := by decide +kernel
theorem q208_4 : qD 208 4 (.bipush 33) 2 6 ∧ (Int8.ofInt (33)).toInt32 = (33 : Int32) := by decide +kernel
theorem q208_6 : qD 208 6 (.iaload) 1 7 := by decide +kernel
theorem q208_7 : qD 208 7 (.imul) 1 8 := by decide +kernel
theorem q208_8 : qD 208 8 (.iadd) 1 9 := by decide +kernel
theorem q208_9 : qD 208 9 (.istore_n 2) 1 10 ∧ ((2 : Fin 4) : Nat) = 2 ∧ 2 < mL 208 := by decide +kernel
theorem q208_10 : qD 208 10 (.iconst 0) 1 11 ∧ Int32.ofInt (0) = (0 : Int32) := by decide +kernel
theorem q208_11 : qD 208 11 (.istore_n 3) 1 12 ∧ ((3 : Fin 4) : Nat) = 3 ∧ 3 < mL 208 := by decide +kernel
theorem q208_12 : qD 208 12 (.iload_n 3) 1 13 ∧ ((3 : Fin 4) : Nat) = 3 := by decide +kernel
theorem q208_13 : qD 208 13 (.iload_n 2) 1 14 ∧ ((2 : Fin 4) : Nat) = 2 := by decide +kernel
theorem q208_14 : qJ 208 14 (.if_icmp .ge 15) 17 (15) 29 := by decide +kernel
theorem q208_17 : qD 208 17 (.aload_n 1) 1 18 ∧ ((1 : Fin 4) : Nat) = 1 := by decide +kernel
theorem q208_18 : qD 208 18 (.iload_n 3) 1 19 ∧ ((3 : Fin 4) : Nat) = 3 := by decide +kernel
theorem q208_19 : qD 208 19 (.aload_n 0) 1 20 ∧ ((0 : Fin 4) : Nat) = 0 := by decide +kernel
theorem q208_20 : qD 208 20 (.iload_n 3) 1 21 ∧ ((3 : Fin 4) : Nat) = 3 := by decide +kernel
theorem q208_21 : qD 208 21 (.iaload) 1 22 := by decide +kernel
theorem q208_22 : qD 208 22 (.iastore) 1 23 := by decide +kernel
theorem q208_23 : qD 208 23 (.iinc 3 1) 3 26 ∧ 3 < mL 208 ∧ Int32.ofInt (1) = (1 : Int32) := by decide +kernel
theorem q208_26 : qJ 208 26 (.goto (-14)) 29 (-14) 12 := by decide +kernel
theorem q208_29 : qD 208 29 (.return_) 1 30 ∧ mR 208 = none := by decide +kernel
theorem q209_0 : qD 209 0 (.iload_n 1) 1 1 ∧ ((1 : Fin 4) : Nat) = 1 := by decide +kernel
theorem q209_1 : qJ 209 1 (.ifCond .lt 15) 4 (15) 16 := by decide +kernel
theorem q209_4 : qD 209 4 (.iload_n 1) 1 5 ∧ ((1 : Fin 4) : Nat) = 1 := by decide +kernel
theorem q209_5 : qD 209 5 (.aload_n 0) 1 6 ∧ ((0 : Fin 4) : Nat) = 0 := by decide +kernel
theorem q209_6 : qG 209 6 285 9 11 26 1291 0 := by decide +kernel
theorem q209_9 : qJ 209 9 (.if_icmp .ge 7) 12 (7) 16 := by decide +kernel
theorem q209_12 : qD 209 12 (.iconst 1) 1 13 ∧ Int32.ofInt (1) = (1 : Int32) := by decide +kernel
theorem q209_13 : qJ 209 13 (.goto 4) 16 (4) 17 := by decide +kernel
theorem q209_16 : qD 209 16 (.iconst 0) 1 17 ∧ Int32.ofInt (0) = (0 : Int32) := by decide +kernel
theorem q209_17 : qD 209 17 (.ireturn) 1 18 ∧ mR 209 = some .boolean := by decide +kernel
theorem q210_0 : qD 210 0 (.iload_n 1) 1 1 ∧ ((1 : Fin 4) : Nat) = 1 := by decide +kernel
theorem q210_1 : qJ 210 1 (.ifCond .lt 15) 4 (15) 16 := by decide +kernel
theorem q210_4 : qD 210 4 (.iload_n 1) 1 5 ∧ ((1 : Fin 4) : Nat) = 1 := by decide +kernel
theorem q210_5 : qD 210 5 (.aload_n 0) 1 6 ∧ ((0 : Fin 4) : Nat) = 0 := by decide +kernel
theorem q210_6 : qG 210 6 288 9 11 27 1292 0 := by decide +kernel
theorem q210_9 : qJ 210 9 (.if_icmp .ge 7) 12 (7) 16 := by decide +kernel
theorem q210_12 : qD 210 12 (.iconst 1) 1 13 ∧ Int32.ofInt (1) = (1 : Int32) := by decide +kernel
theorem q210_13 : qJ 210 13 (.goto 4) 16 (4) 17 := by decide +kernel
theorem q210_16 : qD 210 16 (.iconst 0) 1 17 ∧ Int32.ofInt (0) = (0 : Int32) := by decide +kernel
theorem q210_17 : qD 210 17 (.ireturn) 1 18 ∧ mR 210 = some .boolean := by decide +kernel
theorem q211_0 : qD 211 0 (.aload_n 0) 1 1 ∧ ((0 : Fin 4) : Nat) = 0 := by decide +kernel
theorem q211_1 : qG 211 1 43 4 11 20 1285 2 := by decide +kernel
theorem q211_4 : qD 211 4 (.iconst 5) 1 5 ∧ Int32.ofInt (5) = (5 : Int32) := by decide +kernel
theorem q211_5 : qD 211 5 (.iload_n 1) 1 6 ∧ ((1 : Fin 4) : Nat) = 1 := by decide +kernel
theorem q211_6 : qD 211 6 (.imul) 1 7 := by decide +kernel
theorem q211_7 : qD 211 7 (.iload_n 2) 1 8 ∧ ((2 : Fin 4) : Nat) = 2 := by decide +kernel
theorem q211_8 : qD 211 8 (.iadd) 1 9 := by decide +kernel
theorem q211_9 : qD 211 9 (.iaload) 1 10 := by decide +kernel
theorem q211_10 : qD 211 10 (.ireturn) 1 11 ∧ mR 211 = some .int := by decide +kernel
theorem q212_0 : qD 212 0 (.iconst 0) 1 1 ∧ Int32.ofInt (0) = (0 : Int32) := by decide +kernel
theorem q212_1 : qD 212 1 (.istore_n 3) 1 2 ∧ ((3 : Fin 4) : Nat) = 3 ∧ 3 < mL 212 := by decide +kernel
theorem q212_2 : qD 212 2 (.iload_n 3) 1 3 ∧ ((3 : Fin 4) : Nat) = 3 := by decide +kernel
theorem q212_3 : qD 212 3 (.aload_n 0) 1 4 ∧ ((0 : Fin 4) : Nat) = 0 := by decide +kernel
theorem q212_4 : qG 212 4 285 7 11 26 1291 0 := by decide +kernel
theorem q212_7 : qJ 212 7 (.if_icmp .ge 22) 10 (22) 29 := by decide +kernel
theorem q212_10 : qD 212 10 (.aload_n 1) 1 11 ∧ ((1 : Fin 4) : Nat) = 1 := by decide +kernel
theorem q212_11 : qD 212 11 (.iconst 4) 1 12 ∧ Int32.ofInt (4) = (4 : Int32) := by decide +kernel
theorem q212_12 : qD 212 12 (.iload_n 3) 1 13 ∧ ((3 : Fin 4) : Nat) = 3 := by decide +kernel
theorem q212_13 : qD 212 13 (.imul) 1 14 := by decide +kernel
theorem q212_14 : qD 212 14 (.iconst 0) 1 15 ∧ Int32.ofInt (0) = (0 : Int32) := by decide +kernel
theorem q212_15 : qD 212 15 (.iadd) 1 16 := by decide +kernel
theorem q212_16 : qD 212 16 (.iaload) 1 17 := by decide +kernel
theorem q212_17 : qD 212 17 (.iload_n 2) 1 18 ∧ ((2 : Fin 4) : Nat) = 2 := by decide +kernel
theorem q212_18 : qJ 212 18 (.if_icmp .ne 5) 21 (5) 23 := by decide +kernel
theorem q212_21 : qD 212 21 (.iload_n 3) 1 22 ∧ ((3 : Fin 4) : Nat) = 3 := by decide +kernel
theorem q212_22 : qD 212 22 (.ireturn) 1 23 ∧ mR 212 = some .int := by decide +kernel
theorem q212_23 : qD 212 23 (.iinc 3 1) 3 26 ∧ 3 < mL 212 ∧ Int32.ofInt (1) = (1 : Int32) := by decide +kernel
theorem q212_26 : qJ 212 26 (.goto (-24)) 29 (-24) 2 := by decide +kernel
theorem q212_29 : qD 212 29 (.iconst (-1)) 1 30 ∧ Int32.ofInt (-1) = (-1 : Int32) := by decide +kernel
theorem q212_30 : qD 212 30 (.ireturn) 1 31 ∧ mR 212 = some .int := by decide +kernel
theorem q213_0 : qD 213 0 (.aload_n 0) 1 1 ∧ ((0 : Fin 4) : Nat) = 0 := by decide +kernel
theorem q213_1 : qD 213 1 (.aload_n 1) 1 2 ∧ ((1 : Fin 4) : Nat) = 1 := by decide +kernel
theorem q213_2 : qD 213 2 (.aload_n 0) 1 3 ∧ ((0 : Fin 4) : Nat) = 0 := by decide +kernel
theorem q213_3 : qG 213 3 37 6 11 18 1283 2 := by decide +kernel
theorem q213_6 : qD 213 6 (.iconst 0) 1 7 ∧ Int32.ofInt (0) = (0 : Int32) := by decide +kernel
theorem q213_7 : qD 213 7 (.iaload) 1 8 := by decide +kernel
theorem q213_8 : qD 213 8 (.invokevirtual 303) 3 11 ∧ qI 213 303 212 1610 := by decide +kernel
theorem q213_11 : qD 213 11 (.ireturn) 1 12 ∧ mR 213 = some .int := by decide +kernel
theorem q214_0 : qD 214 0 (.aload_n 0) 1 1 ∧ ((0 : Fin 4) : Nat) = 0 := by decide +kernel
theorem q214_1 : qD 214 1 (.iload_n 2) 1 2 ∧ ((2 : Fin 4) : Nat) = 2 := by decide +kernel
theorem q214_2 : qD 214 2 (.iconst 0) 1 3 ∧ Int32.ofInt (0) = (0 : Int32) := by decide +kernel
theorem q214_3 : qD 214 3 (.invokevirtual 291) 3 6 ∧ qI 214 291 211 1588 := by decide +kernel
theorem q214_6 : qD 214 6 (.istore 5) 2 8 ∧ 5 < mL 214 := by decide +kernel
theorem q214_8 : qD 214 8 (.aload_n 0) 1 9 ∧ ((0 : Fin 4) : Nat) = 0 := by decide +kernel
theorem q214_9 : qG 214 9 67 12 11 34 1299 0 := by decide +kernel
theorem q214_12 : qD 214 12 (.iconst (-1)) 1 13 ∧ Int32.ofInt (-1) = (-1 : Int32) := by decide +kernel
theorem q214_13 : qJ 214 13 (.if_icmp .eq 108) 16 (108) 121 := by decide +kernel
theorem q214_16 : qD 214 16 (.aload_n 0) 1 17 ∧ ((0 : Fin 4) : Nat) = 0 := by decide +kernel
theorem q214_17 : qG 214 17 20 20 11 4 1269 2 := by decide +kernel
theorem q214_20 : qD 214 20 (.bipush 116) 2 22 ∧ (Int8.ofInt (116)).toInt32 = (116 : Int32) := by decide +kernel
theorem q214_22 : qD 214 22 (.iload 5) 2 24 := by decide +kernel
theorem q214_24 : qD 214 24 (.iastore) 1 25 := by decide +kernel
theorem q214_25 : qD 214 25 (.aload_n 0) 1 26 ∧ ((0 : Fin 4) : Nat) = 0 := by decide +kernel
theorem q214_26 : qG 214 26 20 29 11 4 1269 2 := by decide +kernel
theorem q214_29 : qD 214 29 (.bipush 110) 2 31 ∧ (Int8.ofInt (110)).toInt32 = (110 : Int32) := by decide +kernel
theorem q214_31 : qD 214 31 (.aload_n 0) 1 32 ∧ ((0 : Fin 4) : Nat) = 0 := by decide +kernel
theorem q214_32 : qG 214 32 49 35 11 22 1287 2 := by decide +kernel
theorem q214_35 : qD 214 35 (.iconst 2) 1 36 ∧ Int32.ofInt (2) = (2 : Int32) := by decide +kernel
theorem q214_36 : qD 214 36 (.iload 4) 2 38 := by decide +kernel
theorem q214_38 : qD 214 38 (.imul) 1 39 := by decide +kernel
theorem q214_39 : qD 214 39 (.iaload) 1 40 := by decide +kernel
theorem q214_40 : qD 214 40 (.iastore) 1 41 := by decide +kernel
theorem q214_41 : qD 214 41 (.aload_n 0) 1 42 ∧ ((0 : Fin 4) : Nat) = 0 := by decide +kernel
theorem q214_42 : qG 214 42 20 45 11 4 1269 2 := by decide +kernel
theorem q214_45 : qD 214 45 (.bipush 109) 2 47 ∧ (Int8.ofInt (109)).toInt32 = (109 : Int32) := by decide +kernel
theorem q214_47 : qD 214 47 (.aload_n 0) 1 48 ∧ ((0 : Fin 4) : Nat) = 0 := by decide +kernel
theorem q214_48 : qD 214 48 (.aload_n 0) 1 49 ∧ ((0 : Fin 4) : Nat) = 0 := by decide +kernel
theorem q214_49 : qD 214 49 (.aload_n 1) 1 50 ∧ ((1 : Fin 4) : Nat) = 1 := by decide +kernel
theorem q214_50 : qD 214 50 (.iload_n 3) 1 51 ∧ ((3 : Fin 4) : Nat) = 3 := by decide +kernel
theorem q214_51 : qD 214 51 (.invokevirtual 303) 3 54 ∧ qI 214 303 212 1610 := by decide +kernel
theorem q214_54 : qD 214 54 (.iconst 1) 1 55 ∧ Int32.ofInt (1) = (1 : Int32) := by decide +kernel
theorem q214_55 : qD 214 55 (.invokevirtual 291) 3 58 ∧ qI 214 291 211 1588 := by decide +kernel
theorem q214_58 : qD 214 58 (.iastore) 1 59 := by decide +kernel
theorem q214_59 : qD 214 59 (.aload_n 0) 1 60 ∧ ((0 : Fin 4) : Nat) = 0 := by decide +kernel
theorem q214_60 : qG 214 60 20 63 11 4 1269 2 := by decide +kernel
theorem q214_63 : qD 214 63 (.bipush 107) 2 65 ∧ (Int8.ofInt (107)).toInt32 = (107 : Int32) := by decide +kernel
theorem q214_65 : qD 214 65 (.iload 4) 2 67 := by decide +kernel
theorem q214_67 : qD 214 67 (.iastore) 1 68 := by decide +kernel
theorem q214_68 : qD 214 68 (.aload_n 0) 1 69 ∧ ((0 : Fin 4) : Nat) = 0 := by decide +kernel
theorem q214_69 : qG 214 69 20 72 11 4 1269 2 := by decide +kernel
theorem q214_72 : qD 214 72 (.bipush 100) 2 74 ∧ (Int8.ofInt (100)).toInt32 = (100 : Int32) := by decide +kernel
theorem q214_74 : qD 214 74 (.aload_n 1) 1 75 ∧ ((1 : Fin 4) : Nat) = 1 := by decide +kernel
theorem q214_75 : qD 214 75 (.bipush 32) 2 77 ∧ (Int8.ofInt (32)).toInt32 = (32 : Int32) := by decide +kernel
theorem q214_77 : qD 214 77 (.iaload) 1 78 := by decide +kernel
theorem q214_78 : qD 214 78 (.iastore) 1 79 := by decide +kernel
theorem q214_79 : qD 214 79 (.aload_n 0) 1 80 ∧ ((0 : Fin 4) : Nat) = 0 := by decide +kernel
theorem q214_80 : qG 214 80 20 83 11 4 1269 2 := by decide +kernel
theorem q214_83 : qD 214 83 (.bipush 103) 2 85 ∧ (Int8.ofInt (103)).toInt32 = (103 : Int32) := by decide +kernel
theorem q214_85 : qD 214 85 (.aload_n 1) 1 86 ∧ ((1 : Fin 4) : Nat) = 1 := by decide +kernel
theorem q214_86 : qD 214 86 (.bipush 30) 2 88 ∧ (Int8.ofInt (30)).toInt32 = (30 : Int32) := by decide +kernel
theorem q214_88 : qD 214 88 (.iaload) 1 89 := by decide +kernel
theorem q214_89 : qD 214 89 (.iastore) 1 90 := by decide +kernel
theorem q214_90 : qD 214 90 (.aload_n 0) 1 91 ∧ ((0 : Fin 4) : Nat) = 0 := by decide +kernel
theorem q214_91 : qD 214 91 (.aload_n 0) 1 92 ∧ ((0 : Fin 4) : Nat) = 0 := by decide +kernel
theorem q214_92 : qG 214 92 13 95 11 2 1267 2 := by decide +kernel
theorem q214_95 : qD 214 95 (.sipush 240) 3 98 ∧ (Int16.ofInt (240)).toInt32 = (240 : Int32) := by decide +kernel
theorem q214_98 : qD 214 98 (.aload_n 0) 1 99 ∧ ((0 : Fin 4) : Nat) = 0 := by decide +kernel
theorem q214_99 : qG 214 99 67 102 11 34 1299 0 := by decide +kernel
theorem q214_102 : qD 214 102 (.imul) 1 103 := by decide +kernel
theorem q214_103 : qD 214 103 (.aload_n 0) 1 104 ∧ ((0 : Fin 4) : Nat) = 0 := by decide +kernel
theorem q214_104 : qG 214 104 16 107 11 3 1268 2 := by decide +kernel
theorem q214_107 : qD 214 107 (.aload_n 0) 1 108 ∧ ((0 : Fin 4) : Nat) = 0 := by decide +kernel
theorem q214_108 : qG 214 108 67 111 11 34 1299 0 := by decide +kernel
theorem q214_111 : qD 214 111 (.iaload) 1 112 := by decide +kernel
theorem q214_112 : qD 214 112 (.invokevirtual 271) 3 115 ∧ qI 214 271 193 1513 := by decide +kernel
theorem q214_115 : qD 214 115 (.aload_n 0) 1 116 ∧ ((0 : Fin 4) : Nat) = 0 := by decide +kernel
theorem q214_116 : qG 214 116 198 119 11 14 1279 0 := by decide +kernel
theorem q214_119 : qD 214 119 (.istore 5) 2 121 ∧ 5 < mL 214 := by decide +kernel
theorem q214_121 : qD 214 121 (.iconst 0) 1 122 ∧ Int32.ofInt (0) = (0 : Int32) := by decide +kernel
theorem q214_122 : qD 214 122 (.bipush 99) 2 124 ∧ (Int8.ofInt (99)).toInt32 = (99 : Int32) := by decide +kernel
theorem q214_124 : qD 214 124 (.iload 5) 2 126 := by decide +kernel
theorem q214_126 : qD 214 126 (.invokestatic 307) 3 129 ∧ inG 1679 (.methodLink (mN 214).cls 307 Lib.Math.min.name) := by decide +kernel
theorem q214_129 : qD 214 129 (.invokestatic 309) 3 132 ∧ inG 1680 (.methodLink (mN 214).cls 309 Lib.Math.max.name) := by decide +kernel
theorem q214_132 : qD 214 132 (.ireturn) 1 133 ∧ mR 214 = some .int := by decide +kernel
theorem q215_0 : qD 215 0 (.iconst 0) 1 1 ∧ Int32.ofInt (0) = (0 : Int32) := by decide +kernel
theorem q215_1 : qD 215 1 (.istore 4) 2 3 ∧ 4 < mL 215 := by decide +kernel
theorem q215_3 : qD 215 3 (.iload 4) 2 5 := by decide +kernel
theorem q215_5 : qD 215 5 (.aload_n 0) 1 6 ∧ ((0 : Fin 4) : Nat) = 0 := by decide +kernel
theorem q215_6 : qG 215 6 285 9 11 26 1291 0 := by decide +kernel
theorem q215_9 : qJ 215 9 (.if_icmp .ge 17) 12 (17) 26 := by decide +kernel
theorem q215_12 : qD 215 12 (.aload_n 0) 1 13 ∧ ((0 : Fin 4) : Nat) = 0 := by decide +kernel
theorem q215_13 : qG 215 13 71 16 11 36 1301 2 := by decide +kernel
theorem q215_16 : qD 215 16 (.iload 4) 2 18 := by decide +kernel
theorem q215_18 : qD 215 18 (.iconst 0) 1 19 ∧ Int32.ofInt (0) = (0 : Int32) := by decide +kernel
theorem q215_19 : qD 215 19 (.iastore) 1 20 := by decide +kernel
theorem q215_20 : qD 215 20 (.iinc 4 1) 3 23 ∧ 4 < mL 215 ∧ Int32.ofInt (1) = (1 : Int32) := by decide +kernel
theorem q215_23 : qJ 215 23 (.goto (-20)) 26 (-20) 3 := by decide +kernel
theorem q215_26 : qD 215 26 (.aload_n 0) 1 27 ∧ ((0 : Fin 4) : Nat) = 0 := by decide +kernel
theorem q215_27 : qG 215 27 71 30 11 36 1301 2 := by decide +kernel
theorem q215_30 : qD 215 30 (.iload_n 2) 1 31 ∧ ((2 : Fin 4) : Nat) = 2 := by decide +kernel
theorem q215_31 : qD 215 31 (.aload_n 0) 1 32 ∧ ((0 : Fin 4) : Nat) = 0 := by decide +kernel
theorem q215_32 : qG 215 32 37 35 11 18 1283 2 := by decide +kernel
theorem q215_35 : qD 215 35 (.iconst 1) 1 36 ∧ Int32.ofInt (1) = (1 : Int32) := by decide +kernel
theorem q215_36 : qD 215 36 (.iaload) 1 37 := by decide +kernel
theorem q215_37 : qD 215 37 (.iastore) 1 38 := by decide +kernel
theorem q215_38 : qD 215 38 (.iload_n 2) 1 39 ∧ ((2 : Fin 4) : Nat) = 2 := by decide +kernel
theorem q215_39 : qD 215 39 (.iconst 1) 1 40 ∧ Int32.ofInt (1) = (1 : Int32) := by decide +kernel
theorem q215_40 : qD 215 40 (.iadd) 1 41 := by decide +kernel
theorem q215_41 : qD 215 41 (.istore 4) 2 43 ∧ 4 < mL 215 := by decide +kernel
theorem q215_43 : qD 215 43 (.iload 4) 2 45 := by decide +kernel
theorem q215_45 : qD 215 45 (.aload_n 0) 1 46 ∧ ((0 : Fin 4) : Nat) = 0 := by decide +kernel
theorem q215_46 : qG 215 46 285 49 11 26 1291 0 := by decide +kernel
theorem q215_49 : qJ 215 49 (.if_icmp .ge 54) 52 (54) 103 := by decide +kernel
theorem q215_52 : qD 215 52 (.aload_n 0) 1 53 ∧ ((0 : Fin 4) : Nat) = 0 := by decide +kernel
theorem q215_53 : qG 215 53 71 56 11 36 1301 2 := by decide +kernel
theorem q215_56 : qD 215 56 (.iload 4) 2 58 := by decide +kernel
theorem q215_58 : qD 215 58 (.iconst 1) 1 59 ∧ Int32.ofInt (1) = (1 : Int32) := by decide +kernel
theorem q215_59 : qD 215 59 (.isub) 1 60 := by decide +kernel
theorem q215_60 : qD 215 60 (.iaload) 1 61 := by decide +kernel
theorem q215_61 : qJ 215 61 (.ifCond .le 42) 64 (42) 103 := by decide +kernel
theorem q215_64 : qD 215 64 (.aload_n 0) 1 65 ∧ ((0 : Fin 4) : Nat) = 0 := by decide +kernel
theorem q215_65 : qG 215 65 71 68 11 36 1301 2 := by decide +kernel
theorem q215_68 : qD 215 68 (.iload 4) 2 70 := by decide +kernel
theorem q215_70 : qD 215 70 (.iconst 0) 1 71 ∧ Int32.ofInt (0) = (0 : Int32) := by decide +kernel
theorem q215_71 : qD 215 71 (.aload_n 0) 1 72 ∧ ((0 : Fin 4) : Nat) = 0 := by decide +kernel
theorem q215_72 : qG 215 72 71 75 11 36 1301 2 := by decide +kernel
theorem q215_75 : qD 215 75 (.iload 4) 2 77 := by decide +kernel
theorem q215_77 : qD 215 77 (.iconst 1) 1 78 ∧ Int32.ofInt (1) = (1 : Int32) := by decide +kernel
theorem q215_78 : qD 215 78 (.isub) 1 79 := by decide +kernel
theorem q215_79 : qD 215 79 (.iaload) 1 80 := by decide +kernel
theorem q215_80 : qD 215 80 (.aload_n 0) 1 81 ∧ ((0 : Fin 4) : Nat) = 0 := by decide +kernel
theorem q215_81 : qD 215 81 (.aload_n 1) 1 82 ∧ ((1 : Fin 4) : Nat) = 1 := by decide +kernel
theorem q215_82 : qD 215 82 (.iload 4) 2 84 := by decide +kernel
theorem q215_84 : qD 215 84 (.iconst 1) 1 85 ∧ Int32.ofInt (1) = (1 : Int32) := by decide +kernel
theorem q215_85 : qD 215 85 (.isub) 1 86 := by decide +kernel
theorem q215_86 : qD 215 86 (.iload 4) 2 88 := by decide +kernel
theorem q215_88 : qD 215 88 (.iload_n 3) 1 89 ∧ ((3 : Fin 4) : Nat) = 3 := by decide +kernel
theorem q215_89 : qD 215 89 (.invokevirtual 311) 3 92 ∧ qI 215 311 214 1675 := by decide +kernel
theorem q215_92 : qD 215 92 (.isub) 1 93 := by decide +kernel
theorem q215_93 : qD 215 93 (.invokestatic 309) 3 96 ∧ inG 1680 (.methodLink (mN 215).cls 309 Lib.Math.max.name) := by decide +kernel
theorem q215_96 : qD 215 96 (.iastore) 1 97 := by decide +kernel
theorem q215_97 : qD 215 97 (.iinc 4 1) 3 100 ∧ 4 < mL 215 ∧ Int32.ofInt (1) = (1 : Int32) := by decide +kernel
theorem q215_100 : qJ 215 100 (.goto (-57)) 103 (-57) 43 := by decide +kernel
theorem q215_103 : qD 215 103 (.iload_n 2) 1 104 ∧ ((2 : Fin 4) : Nat) = 2 := by decide +kernel
theorem q215_104 : qD 215 104 (.iconst 1) 1 105 ∧ Int32.ofInt (1) = (1 : Int32) := by decide +kernel
theorem q215_105 : qD 215 105 (.isub) 1 106 := by decide +kernel
theorem q215_106 : qD 215 106 (.istore 4) 2 108 ∧ 4 < mL 215 := by decide +kernel
theorem q215_108 : qD 215 108 (.iload 4) 2 110 := by decide +kernel
theorem q215_110 : qJ 215 110 (.ifCond .lt 52) 113 (52) 162 := by decide +kernel
theorem q215_113 : qD 215 113 (.aload_n 0) 1 114 ∧ ((0 : Fin 4) : Nat) = 0 := by decide +kernel
theorem q215_114 : qG 215 114 71 117 11 36 1301 2 := by decide +kernel
theorem q215_117 : qD 215 117 (.iload 4) 2 119 := by decide +kernel
theorem q215_119 : qD 215 119 (.iconst 1) 1 120 ∧ Int32.ofInt (1) = (1 : Int32) := by decide +kernel
theorem q215_120 : qD 215 120 (.iadd) 1 121 := by decide +kernel
theorem q215_121 : qD 215 121 (.iaload) 1 122 := by decide +kernel
theorem q215_122 : qJ 215 122 (.ifCond .le 40) 125 (40) 162 := by decide +kernel
theorem q215_125 : qD 215 125 (.aload_n 0) 1 126 ∧ ((0 : Fin 4) : Nat) = 0 := by decide +kernel
theorem q215_126 : qG 215 126 71 129 11 36 1301 2 := by decide +kernel
theorem q215_129 : qD 215 129 (.iload 4) 2 131 := by decide +kernel
theorem q215_131 : qD 215 131 (.iconst 0) 1 132 ∧ Int32.ofInt (0) = (0 : Int32) := by decide +kernel
theorem q215_132 : qD 215 132 (.aload_n 0) 1 133 ∧ ((0 : Fin 4) : Nat) = 0 := by decide +kernel
theorem q215_133 : qG 215 133 71 136 11 36 1301 2 := by decide +kernel
theorem q215_136 : qD 215 136 (.iload 4) 2 138 := by decide +kernel
theorem q215_138 : qD 215 138 (.iconst 1) 1 139 ∧ Int32.ofInt (1) = (1 : Int32) := by decide +kernel
theorem q215_139 : qD 215 139 (.iadd) 1 140 := by decide +kernel
theorem q215_140 : qD 215 140 (.iaload) 1 141 := by decide +kernel
theorem q215_141 : qD 215 141 (.aload_n 0) 1 142 ∧ ((0 : Fin 4) : Nat) = 0 := by decide +kernel
theorem q215_142 : qD 215 142 (.aload_n 1) 1 143 ∧ ((1 : Fin 4) : Nat) = 1 := by decide +kernel
theorem q215_143 : qD 215 143 (.iload 4) 2 145 := by decide +kernel
theorem q215_145 : qD 215 145 (.iload 4) 2 147 := by decide +kernel
theorem q215_147 : qD 215 147 (.iload_n 3) 1 148 ∧ ((3 : Fin 4) : Nat) = 3 := by decide +kernel
theorem q215_148 : qD 215 148 (.invokevirtual 311) 3 151 ∧ qI 215 311 214 1675 := by decide +kernel
theorem q215_151 : qD 215 151 (.isub) 1 152 := by decide +kernel
theorem q215_152 : qD 215 152 (.invokestatic 309) 3 155 ∧ inG 1680 (.methodLink (mN 215).cls 309 Lib.Math.max.name) := by decide +kernel
theorem q215_155 : qD 215 155 (.iastore) 1 156 := by decide +kernel
theorem q215_156 : qD 215 156 (.iinc 4 (-1)) 3 159 ∧ 4 < mL 215 ∧ Int32.ofInt (-1) = (-1 : Int32) := by decide +kernel
theorem q215_159 : qJ 215 159 (.goto (-51)) 162 (-51) 108 := by decide +kernel
theorem q215_162 : qD 215 162 (.return_) 1 163 ∧ mR 215 = none := by decide +kernel
theorem q216_0 : qD 216 0 (.aload_n 0) 1 1 ∧ ((0 : Fin 4) : Nat) = 0 := by decide +kernel
theorem q216_1 : qG 216 1 71 4 11 36 1301 2 := by decide +kernel
theorem q216_4 : qD 216 4 (.aload_n 1) 1 5 ∧ ((1 : Fin 4) : Nat) = 1 := by decide +kernel
theorem q216_5 : qD 216 5 (.iconst 4) 1 6 ∧ Int32.ofInt (4) = (4 : Int32) := by decide +kernel
theorem q216_6 : qD 216 6 (.iload_n 2) 1 7 ∧ ((2 : Fin 4) : Nat) = 2 := by decide +kernel
theorem q216_7 : qD 216 7 (.imul) 1 8 := by decide +kernel
theorem q216_8 : qD 216 8 (.iconst 0) 1 9 ∧ Int32.ofInt (0) = (0 : Int32) := by decide +kernel
theorem q216_9 : qD 216 9 (.iadd) 1 10 := by decide +kernel
theorem q216_10 : qD 216 10 (.iaload) 1 11 := by decide +kernel
theorem q216_11 : qD 216 11 (.iaload) 1 12 := by decide +kernel
theorem q216_12 : qJ 216 12 (.ifCond .le 7) 15 (7) 19 := by decide +kernel
theorem q216_15 : qD 216 15 (.iconst 1) 1 16 ∧ Int32.ofInt (1) = (1 : Int32) := by decide +kernel
theorem q216_16 : qJ 216 16 (.goto 4) 19 (4) 20 := by decide +kernel
theorem q216_19 : qD 216 19 (.iconst 0) 1 20 ∧ Int32.ofInt (0) = (0 : Int32) := by decide +kernel
theorem q216_20 : qD 216 20 (.ireturn) 1 21 ∧ mR 216 = some .boolean := by decide +kernel
theorem q217_0 : qD 217 0 (.aload_n 1) 1 1 ∧ ((1 : Fin 4) : Nat) = 1 := by decide +kernel
theorem q217_1 : qD 217 1 (.bipush 30) 2 3 ∧ (Int8.ofInt (30)).toInt32 = (30 : Int32) := by decide +kernel
theorem q217_3 : qD 217 3 (.iaload) 1 4 := by decide +kernel
theorem q217_4 : qD 217 4 (.aload_n 0) 1 5 ∧ ((0 : Fin 4) : Nat) = 0 := by decide +kernel
theorem q217_5 : qG 217 5 37 8 11 18 1283 2 := by decide +kernel
theorem q217_8 : qD 217 8 (.iconst 2) 1 9 ∧ Int32.ofInt (2) = (2 : Int32) := by decide +kernel
theorem q217_9 : qD 217 9 (.iaload) 1 10 := by decide +kernel
theorem q217_10 : qJ 217 10 (.if_icmp .lt 7) 13 (7) 17 := by decide +kernel
theorem q217_13 : qD 217 13 (.iconst 1) 1 14 ∧ Int32.ofInt (1) = (1 : Int32) := by decide +kernel
theorem q217_14 : qJ 217 14 (.goto 4) 17 (4) 18 := by decide +kernel
theorem q217_17 : qD 217 17 (.iconst 0) 1 18 ∧ Int32.ofInt (0) = (0 : Int32) := by decide +kernel
theorem q217_18 : qD 217 18 (.ireturn) 1 19 ∧ mR 217 = some .boolean := by decide +kernel
theorem q218_0 : qD 218 0 (.aload_n 0) 1 1 ∧ ((0 : Fin 4) : Nat) = 0 := by decide +kernel
theorem q218_1 : qD 218 1 (.aload_n 1) 1 2 ∧ ((1 : Fin 4) : Nat) = 1 := by decide +kernel
theorem q218_2 : qD 218 2 (.aload_n 0) 1 3 ∧ ((0 : Fin 4) : Nat) = 0 := by decide +kernel
theorem q218_3 : qG 218 3 37 6 11 18 1283 2 := by decide +kernel
theorem q218_6 : qD 218 6 (.iconst 0) 1 7 ∧ Int32.ofInt (0) = (0 : Int32) := by decide +kernel
theorem q218_7 : qD 218 7 (.iaload) 1 8 := by decide +kernel
theorem q218_8 : qD 218 8 (.iload_n 2) 1 9 ∧ ((2 : Fin 4) : Nat) = 2 := by decide +kernel
theorem q218_9 : qD 218 9 (.invokevirtual 314) 3 12 ∧ qI 218 314 215 1671 := by decide +kernel
theorem q218_12 : qD 218 12 (.aload_n 0) 1 13 ∧ ((0 : Fin 4) : Nat) = 0 := by decide +kernel
theorem q218_13 : qD 218 13 (.aload_n 1) 1 14 ∧ ((1 : Fin 4) : Nat) = 1 := by decide +kernel
theorem q218_14 : qD 218 14 (.invokevirtual 318) 3 17 ∧ qI 218 318 213 1659 := by decide +kernel
theorem q218_17 : qD 218 17 (.istore 4) 2 19 ∧ 4 < mL 218 := by decide +kernel
theorem q218_19 : qD 218 19 (.iconst 0) 1 20 ∧ Int32.ofInt (0) = (0 : Int32) := by decide +kernel
theorem q218_20 : qD 218 20 (.istore 5) 2 22 ∧ 5 < mL 218 := by decide +kernel
theorem q218_22 : qD 218 22 (.iconst 0) 1 23 ∧ Int32.ofInt (0) = (0 : Int32) := by decide +kernel
theorem q218_23 : qD 218 23 (.istore 6) 2 25 ∧ 6 < mL 218 := by decide +kernel
theorem q218_25 : qD 218 25 (.iload 6) 2 27 := by decide +kernel
theorem q218_27 : qD 218 27 (.aload_n 0) 1 28 ∧ ((0 : Fin 4) : Nat) = 0 := by decide +kernel
theorem q218_28 : qG 218 28 285 31 11 26 1291 0 := by decide +kernel
theorem q218_31 : qJ 218 31 (.if_icmp .ge 77) 34 (77) 108 := by decide +kernel
theorem q218_34 : qD 218 34 (.iload 6) 2 36 := by decide +kernel
theorem q218_36 : qD 218 36 (.iload 4) 2 38 := by decide +kernel
theorem q218_38 : qJ 218 38 (.if_icmp .eq 64) 41 (64) 102 := by decide +kernel
theorem q218_41 : qD 218 41 (.aload_n 0) 1 42 ∧ ((0 : Fin 4) : Nat) = 0 := by decide +kernel
theorem q218_42 : qD 218 42 (.aload_n 1) 1 43 ∧ ((1 : Fin 4) : Nat) = 1 := by decide +kernel
theorem q218_43 : qD 218 43 (.iload 6) 2 45 := by decide +kernel
theorem q218_45 : qD 218 45 (.invokevirtual 322) 3 48 ∧ qI 218 322 216 1681 := by decide +kernel
theorem q218_48 : qJ 218 48 (.ifCond .ne 6) 51 (6) 54 := by decide +kernel
theorem q218_51 : qJ 218 51 (.goto 51) 54 (51) 102 := by decide +kernel
theorem q218_54 : qD 218 54 (.iload 5) 2 56 := by decide +kernel
theorem q218_56 : qD 218 56 (.iconst 1) 1 57 ∧ Int32.ofInt (1) = (1 : Int32) := by decide +kernel
theorem q218_57 : qD 218 57 (.iload 6) 2 59 := by decide +kernel
theorem q218_59 : qD 218 59 (.ishl) 1 60 := by decide +kernel
theorem q218_60 : qD 218 60 (.ior) 1 61 := by decide +kernel
theorem q218_61 : qD 218 61 (.istore 5) 2 63 ∧ 5 < mL 218 := by decide +kernel
theorem q218_63 : qD 218 63 (.aload_n 1) 1 64 ∧ ((1 : Fin 4) : Nat) = 1 := by decide +kernel
theorem q218_64 : qD 218 64 (.iconst 4) 1 65 ∧ Int32.ofInt (4) = (4 : Int32) := by decide +kernel
theorem q218_65 : qD 218 65 (.iload 6) 2 67 := by decide +kernel
theorem q218_67 : qD 218 67 (.imul) 1 68 := by decide +kernel
theorem q218_68 : qD 218 68 (.iconst 1) 1 69 ∧ Int32.ofInt (1) = (1 : Int32) := by decide +kernel
theorem q218_69 : qD 218 69 (.iadd) 1 70 := by decide +kernel
theorem q218_70 : qD 218 70 (.iaload) 1 71 := by decide +kernel
theorem q218_71 : qD 218 71 (.iload_n 3) 1 72 ∧ ((3 : Fin 4) : Nat) = 3 := by decide +kernel
theorem q218_72 : qJ 218 72 (.if_icmp .ge 6) 75 (6) 78 := by decide +kernel
theorem q218_75 : qJ 218 75 (.goto 27) 78 (27) 102 := by decide +kernel
theorem q218_78 : qD 218 78 (.aload_n 1) 1 79 ∧ ((1 : Fin 4) : Nat) = 1 := by decide +kernel
theorem q218_79 : qD 218 79 (.iconst 4) 1 80 ∧ Int32.ofInt (4) = (4 : Int32) := by decide +kernel
theorem q218_80 : qD 218 80 (.iload 6) 2 82 := by decide +kernel
theorem q218_82 : qD 218 82 (.imul) 1 83 := by decide +kernel
theorem q218_83 : qD 218 83 (.iconst 1) 1 84 ∧ Int32.ofInt (1) = (1 : Int32) := by decide +kernel
theorem q218_84 : qD 218 84 (.iadd) 1 85 := by decide +kernel
theorem q218_85 : qD 218 85 (.dup2) 1 86 := by decide +kernel
theorem q218_86 : qD 218 86 (.iaload) 1 87 := by decide +kernel
theorem q218_87 : qD 218 87 (.iload_n 3) 1 88 ∧ ((3 : Fin 4) : Nat) = 3 := by decide +kernel
theorem q218_88 : qD 218 88 (.isub) 1 89 := by decide +kernel
theorem q218_89 : qD 218 89 (.iastore) 1 90 := by decide +kernel
theorem q218_90 : qD 218 90 (.aload_n 1) 1 91 ∧ ((1 : Fin 4) : Nat) = 1 := by decide +kernel
theorem q218_91 : qD 218 91 (.iconst 4) 1 92 ∧ Int32.ofInt (4) = (4 : Int32) := by decide +kernel
theorem q218_92 : qD 218 92 (.iload 4) 2 94 := by decide +kernel
theorem q218_94 : qD 218 94 (.imul) 1 95 := by decide +kernel
theorem q218_95 : qD 218 95 (.iconst 1) 1 96 ∧ Int32.ofInt (1) = (1 : Int32) := by decide +kernel
theorem q218_96 : qD 218 96 (.iadd) 1 97 := by decide +kernel
theorem q218_97 : qD 218 97 (.dup2) 1 98 := by decide +kernel
theorem q218_98 : qD 218 98 (.iaload) 1 99 := by decide +kernel
theorem q218_99 : qD 218 99 (.iload_n 3) 1 100 ∧ ((3 : Fin 4) : Nat) = 3 := by decide +kernel
theorem q218_100 : qD 218 100 (.iadd) 1 101 := by decide +kernel
theorem q218_101 : qD 218 101 (.iastore) 1 102 := by decide +kernel
theorem q218_102 : qD 218 102 (.iinc 6 1) 3 105 ∧ 6 < mL 218 ∧ Int32.ofInt (1) = (1 : Int32) := by decide +kernel
theorem q218_105 : qJ 218 105 (.goto (-80)) 108 (-80) 25 := by decide +kernel
theorem q218_108 : qD 218 108 (.aload_n 1) 1 109 ∧ ((1 : Fin 4) : Nat) = 1 := by decide +kernel
theorem q218_109 : qD 218 109 (.bipush 30) 2 111 ∧ (Int8.ofInt (30)).toInt32 = (30 : Int32) := by decide +kernel
theorem q218_111 : qD 218 111 (.dup2) 1 112 := by decide +kernel
theorem q218_112 : qD 218 112 (.iaload) 1 113 := by decide +kernel
theorem q218_113 : qD 218 113 (.aload_n 0) 1 114 ∧ ((0 : Fin 4) : Nat) = 0 := by decide +kernel
theorem q218_114 : qG 218 114 49 117 11 22 1287 2 := by decide +kernel
theorem q218_117 : qD 218 117 (.iconst 2) 1 118 ∧ Int32.ofInt (2) = (2 : Int32) := by decide +kernel
theorem q218_118 : qD 218 118 (.iload_n 2) 1 119 ∧ ((2 : Fin 4) : Nat) = 2 := by decide +kernel
theorem q218_119 : qD 218 119 (.imul) 1 120 := by decide +kernel
theorem q218_120 : qD 218 120 (.iaload) 1 121 := by decide +kernel
theorem q218_121 : qD 218 121 (.iadd) 1 122 := by decide +kernel
theorem q218_122 : qD 218 122 (.iastore) 1 123 := by decide +kernel
theorem q218_123 : qD 218 123 (.iload 5) 2 125 := by decide +kernel
theorem q218_125 : qD 218 125 (.ireturn) 1 126 ∧ mR 218 = some .int := by decide +kernel
theorem q219_0 : qD 219 0 (.aload_n 1) 1 1 ∧ ((1 : Fin 4) : Nat) = 1 := by decide +kernel
theorem q219_1 : qD 219 1 (.bipush 28) 2 3 ∧ (Int8.ofInt (28)).toInt32 = (28 : Int32) := by decide +kernel
theorem q219_3 : qD 219 3 (.iaload) 1 4 := by decide +kernel
theorem q219_4 : qD 219 4 (.iload_n 2) 1 5 ∧ ((2 : Fin 4) : Nat) = 2 := by decide +kernel
theorem q219_5 : qD 219 5 (.invokestatic 223) 3 8 ∧ qI 219 223 171 1490 := by decide +kernel
theorem q219_8 : qJ 219 8 (.ifCond .eq 21) 11 (21) 29 := by decide +kernel
theorem q219_11 : qD 219 11 (.aload_n 0) 1 12 ∧ ((0 : Fin 4) : Nat) = 0 := by decide +kernel
theorem q219_12 : qD 219 12 (.aload_n 0) 1 13 ∧ ((0 : Fin 4) : Nat) = 0 := by decide +kernel
theorem q219_13 : qD 219 13 (.aload_n 1) 1 14 ∧ ((1 : Fin 4) : Nat) = 1 := by decide +kernel
theorem q219_14 : qD 219 14 (.invokevirtual 318) 3 17 ∧ qI 219 318 213 1659 := by decide +kernel
theorem q219_17 : qD 219 17 (.iconst 3) 1 18 ∧ Int32.ofInt (3) = (3 : Int32) := by decide +kernel
theorem q219_18 : qD 219 18 (.invokevirtual 291) 3 21 ∧ qI 219 291 211 1588 := by decide +kernel
theorem q219_21 : qD 219 21 (.iload_n 2) 1 22 ∧ ((2 : Fin 4) : Nat) = 2 := by decide +kernel
theorem q219_22 : qJ 219 22 (.if_icmp .eq 7) 25 (7) 29 := by decide +kernel
theorem q219_25 : qD 219 25 (.iconst 1) 1 26 ∧ Int32.ofInt (1) = (1 : Int32) := by decide +kernel
theorem q219_26 : qJ 219 26 (.goto 4) 29 (4) 30 := by decide +kernel
theorem q219_29 : qD 219 29 (.iconst 0) 1 30 ∧ Int32.ofInt (0) = (0 : Int32) := by decide +kernel
theorem q219_30 : qD 219 30 (.ireturn) 1 31 ∧ mR 219 = some .boolean := by decide +kernel
theorem q220_0 : qD 220 0 (.aload_n 0) 1 1 ∧ ((0 : Fin 4) : Nat) = 0 := by decide +kernel
theorem q220_1 : qD 220 1 (.aload_n 1) 1 2 ∧ ((1 : Fin 4) : Nat) = 1 := by decide +kernel
theorem q220_2 : qD 220 2 (.invokevirtual 318) 3 5 ∧ qI 220 318 213 1659 := by decide +kernel
theorem q220_5 : qD 220 5 (.istore_n 2) 1 6 ∧ ((2 : Fin 4) : Nat) = 2 ∧ 2 < mL 220 := by decide +kernel
theorem q220_6 : qD 220 6 (.iconst 0) 1 7 ∧ Int32.ofInt (0) = (0 : Int32) := by decide +kernel
theorem q220_7 : qD 220 7 (.istore_n 3) 1 8 ∧ ((3 : Fin 4) : Nat) = 3 ∧ 3 < mL 220 := by decide +kernel
theorem q220_8 : qD 220 8 (.iload_n 3) 1 9 ∧ ((3 : Fin 4) : Nat) = 3 := by decide +kernel
theorem q220_9 : qD 220 9 (.aload_n 0) 1 10 ∧ ((0 : Fin 4) : Nat) = 0 := by decide +kernel
theorem q220_10 : qG 220 10 285 13 11 26 1291 0 := by decide +kernel
theorem q220_13 : qJ 220 13 (.if_icmp .ge 43) 16 (43) 56 := by decide +kernel
theorem q220_16 : qD 220 16 (.aload_n 1) 1 17 ∧ ((1 : Fin 4) : Nat) = 1 := by decide +kernel
theorem q220_17 : qD 220 17 (.iconst 4) 1 18 ∧ Int32.ofInt (4) = (4 : Int32) := by decide +kernel
theorem q220_18 : qD 220 18 (.iload_n 3) 1 19 ∧ ((3 : Fin 4) : Nat) = 3 := by decide +kernel
theorem q220_19 : qD 220 19 (.imul) 1 20 := by decide +kernel
theorem q220_20 : qD 220 20 (.iconst 2) 1 21 ∧ Int32.ofInt (2) = (2 : Int32) := by decide +kernel
theorem q220_21 : qD 220 21 (.iadd) 1 22 := by decide +kernel
theorem q220_22 : qD 220 22 (.dup2) 1 23 := by decide +kernel
theorem q220_23 : qD 220 23 (.iaload) 1 24 := by decide +kernel
theorem q220_24 : qD 220 24 (.aload_n 1) 1 25 ∧ ((1 : Fin 4) : Nat) = 1 := by decide +kernel
theorem q220_25 : qD 220 25 (.bipush 28) 2 27 ∧ (Int8.ofInt (28)).toInt32 = (28 : Int32) := by decide +kernel
theorem q220_27 : qD 220 27 (.iaload) 1 28 := by decide +kernel
theorem q220_28 : qD 220 28 (.iload_n 3) 1 29 ∧ ((3 : Fin 4) : Nat) = 3 := by decide +kernel
theorem q220_29 : qD 220 29 (.iload_n 2) 1 30 ∧ ((2 : Fin 4) : Nat) = 2 := by decide +kernel
theorem q220_30 : qJ 220 30 (.if_icmp .ne 10) 33 (10) 40 := by decide +kernel
theorem q220_33 : qD 220 33 (.aload_n 1) 1 34 ∧ ((1 : Fin 4) : Nat) = 1 := by decide +kernel
theorem q220_34 : qD 220 34 (.bipush 28) 2 36 ∧ (Int8.ofInt (28)).toInt32 = (28 : Int32) := by decide +kernel
theorem q220_36 : qD 220 36 (.iaload) 1 37 := by decide +kernel
theorem q220_37 : qJ 220 37 (.goto 10) 40 (10) 47 := by decide +kernel
theorem q220_40 : qD 220 40 (.aload_n 1) 1 41 ∧ ((1 : Fin 4) : Nat) = 1 := by decide +kernel
theorem q220_41 : qD 220 41 (.iconst 4) 1 42 ∧ Int32.ofInt (4) = (4 : Int32) := by decide +kernel
theorem q220_42 : qD 220 42 (.iload_n 3) 1 43 ∧ ((3 : Fin 4) : Nat) = 3 := by decide +kernel
theorem q220_43 : qD 220 43 (.imul) 1 44 := by decide +kernel
theorem q220_44 : qD 220 44 (.iconst 3) 1 45 ∧ Int32.ofInt (3) = (3 : Int32) := by decide +kernel
theorem q220_45 : qD 220 45 (.iadd) 1 46 := by decide +kernel
theorem q220_46 : qD 220 46 (.iaload) 1 47 := by decide +kernel
theorem q220_47 : qD 220 47 (.iand) 1 48 := by decide +kernel
theorem q220_48 : qD 220 48 (.ior) 1 49 := by decide +kernel
theorem q220_49 : qD 220 49 (.iastore) 1 50 := by decide +kernel
theorem q220_50 : qD 220 50 (.iinc 3 1) 3 53 ∧ 3 < mL 220 ∧ Int32.ofInt (1) = (1 : Int32) := by decide +kernel
theorem q220_53 : qJ 220 53 (.goto (-45)) 56 (-45) 8 := by decide +kernel
theorem q220_56 : qD 220 56 (.iconst 0) 1 57 ∧ Int32.ofInt (0) = (0 : Int32) := by decide +kernel
theorem q220_57 : qD 220 57 (.istore_n 3) 1 58 ∧ ((3 : Fin 4) : Nat) = 3 ∧ 3 < mL 220 := by decide +kernel
theorem q220_58 : qD 220 58 (.iconst 0) 1 59 ∧ Int32.ofInt (0) = (0 : Int32) := by decide +kernel
theorem q220_59 : qD 220 59 (.istore 4) 2 61 ∧ 4 < mL 220 := by decide +kernel
theorem q220_61 : qD 220 61 (.iload 4) 2 63 := by decide +kernel
theorem q220_63 : qD 220 63 (.aload_n 0) 1 64 ∧ ((0 : Fin 4) : Nat) = 0 := by decide +kernel
theorem q220_64 : qG 220 64 288 67 11 27 1292 0 := by decide +kernel
theorem q220_67 : qJ 220 67 (.if_icmp .ge 100) 70 (100) 167 := by decide +kernel
theorem q220_70 : qD 220 70 (.aload_n 0) 1 71 ∧ ((0 : Fin 4) : Nat) = 0 := by decide +kernel
theorem q220_71 : qD 220 71 (.aload_n 1) 1 72 ∧ ((1 : Fin 4) : Nat) = 1 := by decide +kernel
theorem q220_72 : qD 220 72 (.iload 4) 2 74 := by decide +kernel
theorem q220_74 : qD 220 74 (.invokevirtual 326) 3 77 ∧ qI 220 326 219 1663 := by decide +kernel
theorem q220_77 : qJ 220 77 (.ifCond .eq 84) 80 (84) 161 := by decide +kernel
theorem q220_80 : qD 220 80 (.aload_n 0) 1 81 ∧ ((0 : Fin 4) : Nat) = 0 := by decide +kernel
theorem q220_81 : qD 220 81 (.aload_n 1) 1 82 ∧ ((1 : Fin 4) : Nat) = 1 := by decide +kernel
theorem q220_82 : qD 220 82 (.invokevirtual 329) 3 85 ∧ qI 220 329 217 1651 := by decide +kernel
theorem q220_85 : qJ 220 85 (.ifCond .eq 6) 88 (6) 91 := by decide +kernel
theorem q220_88 : qJ 220 88 (.goto 73) 91 (73) 161 := by decide +kernel
theorem q220_91 : qD 220 91 (.aload_n 0) 1 92 ∧ ((0 : Fin 4) : Nat) = 0 := by decide +kernel
theorem q220_92 : qD 220 92 (.aload_n 1) 1 93 ∧ ((1 : Fin 4) : Nat) = 1 := by decide +kernel
theorem q220_93 : qD 220 93 (.iload 4) 2 95 := by decide +kernel
theorem q220_95 : qD 220 95 (.aload_n 0) 1 96 ∧ ((0 : Fin 4) : Nat) = 0 := by decide +kernel
theorem q220_96 : qG 220 96 37 99 11 18 1283 2 := by decide +kernel
theorem q220_99 : qD 220 99 (.iconst 3) 1 100 ∧ Int32.ofInt (3) = (3 : Int32) := by decide +kernel
theorem q220_100 : qD 220 100 (.iaload) 1 101 := by decide +kernel
theorem q220_101 : qD 220 101 (.invokevirtual 333) 3 104 ∧ qI 220 333 218 1667 := by decide +kernel
theorem q220_104 : qD 220 104 (.istore 5) 2 106 ∧ 5 < mL 220 := by decide +kernel
theorem q220_106 : qD 220 106 (.iconst 0) 1 107 ∧ Int32.ofInt (0) = (0 : Int32) := by decide +kernel
theorem q220_107 : qD 220 107 (.istore 6) 2 109 ∧ 6 < mL 220 := by decide +kernel
theorem q220_109 : qD 220 109 (.iload 6) 2 111 := by decide +kernel
theorem q220_111 : qD 220 111 (.aload_n 0) 1 112 ∧ ((0 : Fin 4) : Nat) = 0 := by decide +kernel
theorem q220_112 : qG 220 112 285 115 11 26 1291 0 := by decide +kernel
theorem q220_115 : qJ 220 115 (.if_icmp .ge 38) 118 (38) 153 := by decide +kernel
theorem q220_118 : qD 220 118 (.aload_n 1) 1 119 ∧ ((1 : Fin 4) : Nat) = 1 := by decide +kernel
theorem q220_119 : qD 220 119 (.iconst 4) 1 120 ∧ Int32.ofInt (4) = (4 : Int32) := by decide +kernel
theorem q220_120 : qD 220 120 (.iload 6) 2 122 := by decide +kernel
theorem q220_122 : qD 220 122 (.imul) 1 123 := by decide +kernel
theorem q220_123 : qD 220 123 (.iconst 2) 1 124 ∧ Int32.ofInt (2) = (2 : Int32) := by decide +kernel
theorem q220_124 : qD 220 124 (.iadd) 1 125 := by decide +kernel
theorem q220_125 : qD 220 125 (.dup2) 1 126 := by decide +kernel
theorem q220_126 : qD 220 126 (.iaload) 1 127 := by decide +kernel
theorem q220_127 : qD 220 127 (.iload 5) 2 129 := by decide +kernel
theorem q220_129 : qD 220 129 (.iload 6) 2 131 := by decide +kernel
theorem q220_131 : qD 220 131 (.invokestatic 223) 3 134 ∧ qI 220 223 171 1490 := by decide +kernel
theorem q220_134 : qJ 220 134 (.ifCond .eq 10) 137 (10) 144 := by decide +kernel
theorem q220_137 : qD 220 137 (.iconst 1) 1 138 ∧ Int32.ofInt (1) = (1 : Int32) := by decide +kernel
theorem q220_138 : qD 220 138 (.iload 4) 2 140 := by decide +kernel
theorem q220_140 : qD 220 140 (.ishl) 1 141 := by decide +kernel
theorem q220_141 : qJ 220 141 (.goto 4) 144 (4) 145 := by decide +kernel
theorem q220_144 : qD 220 144 (.iconst 0) 1 145 ∧ Int32.ofInt (0) = (0 : Int32) := by decide +kernel
theorem q220_145 : qD 220 145 (.ior) 1 146 := by decide +kernel
theorem q220_146 : qD 220 146 (.iastore) 1 147 := by decide +kernel
theorem q220_147 : qD 220 147 (.iinc 6 1) 3 150 ∧ 6 < mL 220 ∧ Int32.ofInt (1) = (1 : Int32) := by decide +kernel
theorem q220_150 : qJ 220 150 (.goto (-41)) 153 (-41) 109 := by decide +kernel
theorem q220_153 : qD 220 153 (.iload_n 3) 1 154 ∧ ((3 : Fin 4) : Nat) = 3 := by decide +kernel
theorem q220_154 : qD 220 154 (.iload 5) 2 156 := by decide +kernel
theorem q220_156 : qD 220 156 (.invokestatic 337) 3 159 ∧ qI 220 337 295 1685 := by decide +kernel
theorem q220_159 : qD 220 159 (.iadd) 1 160 := by decide +kernel
theorem q220_160 : qD 220 160 (.istore_n 3) 1 161 ∧ ((3 : Fin 4) : Nat) = 3 ∧ 3 < mL 220 := by decide +kernel
theorem q220_161 : qD 220 161 (.iinc 4 1) 3 164 ∧ 4 < mL 220 ∧ Int32.ofInt (1) = (1 : Int32) := by decide +kernel
theorem q220_164 : qJ 220 164 (.goto (-103)) 167 (-103) 61 := by decide +kernel
theorem q220_167 : qD 220 167 (.aload_n 1) 1 168 ∧ ((1 : Fin 4) : Nat) = 1 := by decide +kernel
theorem q220_168 : qD 220 168 (.bipush 29) 2 170 ∧ (Int8.ofInt (29)).toInt32 = (29 : Int32) := by decide +kernel
theorem q220_170 : qD 220 170 (.iconst 1) 1 171 ∧ Int32.ofInt (1) = (1 : Int32) := by decide +kernel
theorem q220_171 : qD 220 171 (.iastore) 1 172 := by decide +kernel
theorem q220_172 : qD 220 172 (.aload_n 1) 1 173 ∧ ((1 : Fin 4) : Nat) = 1 := by decide +kernel
theorem q220_173 : qD 220 173 (.bipush 31) 2 175 ∧ (Int8.ofInt (31)).toInt32 = (31 : Int32) := by decide +kernel
theorem q220_175 : qD 220 175 (.iload_n 3) 1 176 ∧ ((3 : Fin 4) : Nat) = 3 := by decide +kernel
theorem q220_176 : qD 220 176 (.iastore) 1 177 := by decide +kernel
theorem q220_177 : qD 220 177 (.iload_n 3) 1 178 ∧ ((3 : Fin 4) : Nat) = 3 := by decide +kernel
theorem q220_178 : qD 220 178 (.ireturn) 1 179 ∧ mR 220 = some .int := by decide +kernel
theorem q221_0 : qD 221 0 (.aload_n 1) 1 1 ∧ ((1 : Fin 4) : Nat) = 1 := by decide +kernel
theorem q221_1 : qD 221 1 (.bipush 33) 2 3 ∧ (Int8.ofInt (33)).toInt32 = (33 : Int32) := by decide +kernel
theorem q221_3 : qD 221 3 (.iaload) 1 4 := by decide +kernel
theorem q221_4 : qD 221 4 (.bipush 60) 2 6 ∧ (Int8.ofInt (60)).toInt32 = (60 : Int32) := by decide +kernel
theorem q221_6 : qJ 221 6 (.if_icmp .ne 40) 9 (40) 46 := by decide +kernel
theorem q221_9 : qD 221 9 (.iconst 1) 1 10 ∧ Int32.ofInt (1) = (1 : Int32) := by decide +kernel
theorem q221_10 : qD 221 10 (.istore_n 2) 1 11 ∧ ((2 : Fin 4) : Nat) = 2 ∧ 2 < mL 221 := by decide +kernel
theorem q221_11 : qD 221 11 (.iload_n 2) 1 12 ∧ ((2 : Fin 4) : Nat) = 2 := by decide +kernel
theorem q221_12 : qD 221 12 (.sipush 177) 3 15 ∧ (Int16.ofInt (177)).toInt32 = (177 : Int32) := by decide +kernel
theorem q221_15 : qJ 221 15 (.if_icmp .gt 23) 18 (23) 38 := by decide +kernel
theorem q221_18 : qD 221 18 (.aload_n 1) 1 19 ∧ ((1 : Fin 4) : Nat) = 1 := by decide +kernel
theorem q221_19 : qD 221 19 (.bipush 33) 2 21 ∧ (Int8.ofInt (33)).toInt32 = (33 : Int32) := by decide +kernel
theorem q221_21 : qD 221 21 (.iload_n 2) 1 22 ∧ ((2 : Fin 4) : Nat) = 2 := by decide +kernel
theorem q221_22 : qD 221 22 (.iadd) 1 23 := by decide +kernel
theorem q221_23 : qD 221 23 (.aload_n 1) 1 24 ∧ ((1 : Fin 4) : Nat) = 1 := by decide +kernel
theorem q221_24 : qD 221 24 (.bipush 33) 2 26 ∧ (Int8.ofInt (33)).toInt32 = (33 : Int32) := by decide +kernel
theorem q221_26 : qD 221 26 (.iload_n 2) 1 27 ∧ ((2 : Fin 4) : Nat) = 2 := by decide +kernel
theorem q221_27 : qD 221 27 (.iadd) 1 28 := by decide +kernel
theorem q221_28 : qD 221 28 (.iconst 3) 1 29 ∧ Int32.ofInt (3) = (3 : Int32) := by decide +kernel
theorem q221_29 : qD 221 29 (.iadd) 1 30 := by decide +kernel
theorem q221_30 : qD 221 30 (.iaload) 1 31 := by decide +kernel
theorem q221_31 : qD 221 31 (.iastore) 1 32 := by decide +kernel
theorem q221_32 : qD 221 32 (.iinc 2 1) 3 35 ∧ 2 < mL 221 ∧ Int32.ofInt (1) = (1 : Int32) := by decide +kernel
theorem q221_35 : qJ 221 35 (.goto (-24)) 38 (-24) 11 := by decide +kernel
theorem q221_38 : qD 221 38 (.aload_n 1) 1 39 ∧ ((1 : Fin 4) : Nat) = 1 := by decide +kernel
theorem q221_39 : qD 221 39 (.bipush 33) 2 41 ∧ (Int8.ofInt (33)).toInt32 = (33 : Int32) := by decide +kernel
theorem q221_41 : qD 221 41 (.dup2) 1 42 := by decide +kernel
theorem q221_42 : qD 221 42 (.iaload) 1 43 := by decide +kernel
theorem q221_43 : qD 221 43 (.iconst 1) 1 44 ∧ Int32.ofInt (1) = (1 : Int32) := by decide +kernel
theorem q221_44 : qD 221 44 (.isub) 1 45 := by decide +kernel
theorem q221_45 : qD 221 45 (.iastore) 1 46 := by decide +kernel
theorem q221_46 : qD 221 46 (.bipush 34) 2 48 ∧ (Int8.ofInt (34)).toInt32 = (34 : Int32) := by decide +kernel
theorem q221_48 : qD 221 48 (.iconst 3) 1 49 ∧ Int32.ofInt (3) = (3 : Int32) := by decide +kernel
theorem q221_49 : qD 221 49 (.aload_n 1) 1 50 ∧ ((1 : Fin 4) : Nat) = 1 := by decide +kernel
theorem q221_50 : qD 221 50 (.bipush 33) 2 52 ∧ (Int8.ofInt (33)).toInt32 = (33 : Int32) := by decide +kernel
theorem q221_52 : qD 221 52 (.iaload) 1 53 := by decide +kernel
theorem q221_53 : qD 221 53 (.imul) 1 54 := by decide +kernel
theorem q221_54 : qD 221 54 (.iadd) 1 55 := by decide +kernel
theorem q221_55 : qD 221 55 (.istore_n 2) 1 56 ∧ ((2 : Fin 4) : Nat) = 2 ∧ 2 < mL 221 := by decide +kernel
theorem q221_56 : qD 221 56 (.aload_n 1) 1 57 ∧ ((1 : Fin 4) : Nat) = 1 := by decide +kernel
theorem q221_57 : qD 221 57 (.iload_n 2) 1 58 ∧ ((2 : Fin 4) : Nat) = 2 := by decide +kernel
theorem q221_58 : qD 221 58 (.aload_n 1) 1 59 ∧ ((1 : Fin 4) : Nat) = 1 := by decide +kernel
theorem q221_59 : qD 221 59 (.bipush 28) 2 61 ∧ (Int8.ofInt (28)).toInt32 = (28 : Int32) := by decide +kernel
theorem q221_61 : qD 221 61 (.iaload) 1 62 := by decide +kernel
theorem q221_62 : qD 221 62 (.iastore) 1 63 := by decide +kernel
theorem q221_63 : qD 221 63 (.aload_n 1) 1 64 ∧ ((1 : Fin 4) : Nat) = 1 := by decide +kernel
theorem q221_64 : qD 221 64 (.iload_n 2) 1 65 ∧ ((2 : Fin 4) : Nat) = 2 := by decide +kernel
theorem q221_65 : qD 221 65 (.iconst 1) 1 66 ∧ Int32.ofInt (1) = (1 : Int32) := by decide +kernel
theorem q221_66 : qD 221 66 (.iadd) 1 67 := by decide +kernel
theorem q221_67 : qD 221 67 (.aload_n 1) 1 68 ∧ ((1 : Fin 4) : Nat) = 1 := by decide +kernel
theorem q221_68 : qD 221 68 (.bipush 31) 2 70 ∧ (Int8.ofInt (31)).toInt32 = (31 : Int32) := by decide +kernel
theorem q221_70 : qD 221 70 (.iaload) 1 71 := by decide +kernel
theorem q221_71 : qD 221 71 (.iastore) 1 72 := by decide +kernel
theorem q221_72 : qD 221 72 (.aload_n 1) 1 73 ∧ ((1 : Fin 4) : Nat) = 1 := by decide +kernel
theorem q221_73 : qD 221 73 (.iload_n 2) 1 74 ∧ ((2 : Fin 4) : Nat) = 2 := by decide +kernel
theorem q221_74 : qD 221 74 (.iconst 2) 1 75 ∧ Int32.ofInt (2) = (2 : Int32) := by decide +kernel
theorem q221_75 : qD 221 75 (.iadd) 1 76 := by decide +kernel
theorem q221_76 : qD 221 76 (.aload_n 1) 1 77 ∧ ((1 : Fin 4) : Nat) = 1 := by decide +kernel
theorem q221_77 : qD 221 77 (.bipush 30) 2 79 ∧ (Int8.ofInt (30)).toInt32 = (30 : Int32) := by decide +kernel
theorem q221_79 : qD 221 79 (.iaload) 1 80 := by decide +kernel
theorem q221_80 : qD 221 80 (.iastore) 1 81 := by decide +kernel
theorem q221_81 : qD 221 81 (.aload_n 1) 1 82 ∧ ((1 : Fin 4) : Nat) = 1 := by decide +kernel
theorem q221_82 : qD 221 82 (.bipush 33) 2 84 ∧ (Int8.ofInt (33)).toInt32 = (33 : Int32) := by decide +kernel
theorem q221_84 : qD 221 84 (.dup2) 1 85 := by decide +kernel
theorem q221_85 : qD 221 85 (.iaload) 1 86 := by decide +kernel
theorem q221_86 : qD 221 86 (.iconst 1) 1 87 ∧ Int32.ofInt (1) = (1 : Int32) := by decide +kernel
theorem q221_87 : qD 221 87 (.iadd) 1 88 := by decide +kernel
theorem q221_88 : qD 221 88 (.iastore) 1 89 := by decide +kernel
theorem q221_89 : qD 221 89 (.aload_n 1) 1 90 ∧ ((1 : Fin 4) : Nat) = 1 := by decide +kernel
theorem q221_90 : qD 221 90 (.bipush 28) 2 92 ∧ (Int8.ofInt (28)).toInt32 = (28 : Int32) := by decide +kernel
theorem q221_92 : qD 221 92 (.iconst 0) 1 93 ∧ Int32.ofInt (0) = (0 : Int32) := by decide +kernel
theorem q221_93 : qD 221 93 (.iastore) 1 94 := by decide +kernel
theorem q221_94 : qD 221 94 (.aload_n 1) 1 95 ∧ ((1 : Fin 4) : Nat) = 1 := by decide +kernel
theorem q221_95 : qD 221 95 (.bipush 29) 2 97 ∧ (Int8.ofInt (29)).toInt32 = (29 : Int32) := by decide +kernel
theorem q221_97 : qD 221 97 (.iconst 0) 1 98 ∧ Int32.ofInt (0) = (0 : Int32) := by decide +kernel
theorem q221_98 : qD 221 98 (.iastore) 1 99 := by decide +kernel
theorem q221_99 : qD 221 99 (.aload_n 1) 1 100 ∧ ((1 : Fin 4) : Nat) = 1 := by decide +kernel
theorem q221_100 : qD 221 100 (.bipush 31) 2 102 ∧ (Int8.ofInt (31)).toInt32 = (31 : Int32) := by decide +kernel
theorem q221_102 : qD 221 102 (.iconst 0) 1 103 ∧ Int32.ofInt (0) = (0 : Int32) := by decide +kernel
theorem q221_103 : qD 221 103 (.iastore) 1 104 := by decide +kernel
theorem q221_104 : qD 221 104 (.iconst 0) 1 105 ∧ Int32.ofInt (0) = (0 : Int32) := by decide +kernel
theorem q221_105 : qD 221 105 (.istore_n 3) 1 106 ∧ ((3 : Fin 4) : Nat) = 3 ∧ 3 < mL 221 := by decide +kernel
theorem q221_106 : qD 221 106 (.iload_n 3) 1 107 ∧ ((3 : Fin 4) : Nat) = 3 := by decide +kernel
theorem q221_107 : qD 221 107 (.aload_n 0) 1 108 ∧ ((0 : Fin 4) : Nat) = 0 := by decide +kernel
theorem q221_108 : qG 221 108 285 111 11 26 1291 0 := by decide +kernel
theorem q221_111 : qJ 221 111 (.if_icmp .ge 17) 114 (17) 128 := by decide +kernel
theorem q221_114 : qD 221 114 (.aload_n 1) 1 115 ∧ ((1 : Fin 4) : Nat) = 1 := by decide +kernel
theorem q221_115 : qD 221 115 (.iconst 4) 1 116 ∧ Int32.ofInt (4) = (4 : Int32) := by decide +kernel
theorem q221_116 : qD 221 116 (.iload_n 3) 1 117 ∧ ((3 : Fin 4) : Nat) = 3 := by decide +kernel
theorem q221_117 : qD 221 117 (.imul) 1 118 := by decide +kernel
theorem q221_118 : qD 221 118 (.iconst 2) 1 119 ∧ Int32.ofInt (2) = (2 : Int32) := by decide +kernel
theorem q221_119 : qD 221 119 (.iadd) 1 120 := by decide +kernel
theorem q221_120 : qD 221 120 (.iconst 0) 1 121 ∧ Int32.ofInt (0) = (0 : Int32) := by decide +kernel
theorem q221_121 : qD 221 121 (.iastore) 1 122 := by decide +kernel
theorem q221_122 : qD 221 122 (.iinc 3 1) 3 125 ∧ 3 < mL 221 ∧ Int32.ofInt (1) = (1 : Int32) := by decide +kernel
theorem q221_125 : qJ 221 125 (.goto (-19)) 128 (-19) 106 := by decide +kernel
theorem q221_128 : qD 221 128 (.aload_n 1) 1 129 ∧ ((1 : Fin 4) : Nat) = 1 := by decide +kernel
theorem q221_129 : qD 221 129 (.bipush 32) 2 131 ∧ (Int8.ofInt (32)).toInt32 = (32 : Int32) := by decide +kernel
theorem q221_131 : qD 221 131 (.dup2) 1 132 := by decide +kernel
theorem q221_132 : qD 221 132 (.iaload) 1 133 := by decide +kernel
theorem q221_133 : qD 221 133 (.iconst 1) 1 134 ∧ Int32.ofInt (1) = (1 : Int32) := by decide +kernel
theorem q221_134 : qD 221 134 (.iadd) 1 135 := by decide +kernel
theorem q221_135 : qD 221 135 (.iastore) 1 136 := by decide +kernel
theorem q221_136 : qD 221 136 (.return_) 1 137 ∧ mR 221 = none := by decide +kernel
theorem q222_0 : qD 222 0 (.aload_n 0) 1 1 ∧ ((0 : Fin 4) : Nat) = 0 := by decide +kernel
theorem q222_1 : qD 222 1 (.iconst 0) 1 2 ∧ Int32.ofInt (0) = (0 : Int32) := by decide +kernel
theorem q222_2 : qP 222 2 90 5 11 0 1265 0 := by decide +kernel
theorem q222_5 : qD 222 5 (.aload_n 0) 1 6 ∧ ((0 : Fin 4) : Nat) = 0 := by decide +kernel
theorem q222_6 : qG 222 6 285 9 11 26 1291 0 := by decide +kernel
theorem q222_9 : qJ 222 9 (.ifCond .le 24) 12 (24) 33 := by decide +kernel
theorem q222_12 : qD 222 12 (.iload_n 1) 1 13 ∧ ((1 : Fin 4) : Nat) = 1 := by decide +kernel
theorem q222_13 : qD 222 13 (.i2l) 1 14 := by decide +kernel
theorem q222_14 : qD 222 14 (.lconst 0) 1 15 ∧ Int64.ofNat ((0 : Fin 2) : Nat) = 0 := by decide +kernel
theorem q222_15 : qD 222 15 (.ldc2_w 342) 3 18 ∧ inG 1596 (.constantLong (mN 222).cls 342 (3)) := by decide +kernel
theorem q222_18 : qD 222 18 (.invokestatic 211) 3 21 ∧ qI 222 211 170 1435 := by decide +kernel
theorem q222_21 : qJ 222 21 (.ifCond .eq 12) 24 (12) 33 := by decide +kernel
theorem q222_24 : qD 222 24 (.aload_n 0) 1 25 ∧ ((0 : Fin 4) : Nat) = 0 := by decide +kernel
theorem q222_25 : qG 222 25 37 28 11 18 1283 2 := by decide +kernel
theorem q222_28 : qD 222 28 (.iload_n 1) 1 29 ∧ ((1 : Fin 4) : Nat) = 1 := by decide +kernel
theorem q222_29 : qD 222 29 (.iaload) 1 30 := by decide +kernel
theorem q222_30 : qJ 222 30 (.goto 4) 33 (4) 34 := by decide +kernel
theorem q222_33 : qD 222 33 (.iconst (-1)) 1 34 ∧ Int32.ofInt (-1) = (-1 : Int32) := by decide +kernel
theorem q222_34 : qD 222 34 (.ireturn) 1 35 ∧ mR 222 = some .int := by decide +kernel
theorem q223_0 : qD 223 0 (.aload_n 0) 1 1 ∧ ((0 : Fin 4) : Nat) = 0 := by decide +kernel
theorem q223_1 : qD 223 1 (.aload_n 0) 1 2 ∧ ((0 : Fin 4) : Nat) = 0 := by decide +kernel
theorem q223_2 : qD 223 2 (.iload_n 1) 1 3 ∧ ((1 : Fin 4) : Nat) = 1 := by decide +kernel
theorem q223_3 : qD 223 3 (.invokevirtual 344) 3 6 ∧ qI 223 344 209 1601 := by decide +kernel
theorem q223_6 : qJ 223 6 (.ifCond .eq 19) 9 (19) 25 := by decide +kernel
theorem q223_9 : qD 223 9 (.iload_n 2) 1 10 ∧ ((2 : Fin 4) : Nat) = 2 := by decide +kernel
theorem q223_10 : qD 223 10 (.i2l) 1 11 := by decide +kernel
theorem q223_11 : qD 223 11 (.lconst 0) 1 12 ∧ Int64.ofNat ((0 : Fin 2) : Nat) = 0 := by decide +kernel
theorem q223_12 : qD 223 12 (.ldc2_w 347) 3 15 ∧ inG 1605 (.constantLong (mN 223).cls 347 (6)) := by decide +kernel
theorem q223_15 : qD 223 15 (.invokestatic 211) 3 18 ∧ qI 223 211 170 1435 := by decide +kernel
theorem q223_18 : qJ 223 18 (.ifCond .eq 7) 21 (7) 25 := by decide +kernel
theorem q223_21 : qD 223 21 (.iconst 0) 1 22 ∧ Int32.ofInt (0) = (0 : Int32) := by decide +kernel
theorem q223_22 : qJ 223 22 (.goto 4) 25 (4) 26 := by decide +kernel
theorem q223_25 : qD 223 25 (.iconst 1) 1 26 ∧ Int32.ofInt (1) = (1 : Int32) := by decide +kernel
theorem q223_26 : qP 223 26 90 29 11 0 1265 0 := by decide +kernel
theorem q223_29 : qD 223 29 (.aload_n 0) 1 30 ∧ ((0 : Fin 4) : Nat) = 0 := by decide +kernel
theorem q223_30 : qG 223 30 90 33 11 0 1265 0 := by decide +kernel
theorem q223_33 : qJ 223 33 (.ifCond .le 5) 36 (5) 38 := by decide +kernel
theorem q223_36 : qD 223 36 (.iconst 0) 1 37 ∧ Int32.ofInt (0) = (0 : Int32) := by decide +kernel
theorem q223_37 : qD 223 37 (.ireturn) 1 38 ∧ mR 223 = some .int := by decide +kernel
theorem q223_38 : qD 223 38 (.iload_n 2) 1 39 ∧ ((2 : Fin 4) : Nat) = 2 := by decide +kernel
theorem q223_39 : qD 223 39 (.tableswitch 108 0 5 #[37, 48, 55, 62, 86, 97]) 37 76 ∧ (39 : Int) + (108) = (147 : Int) ∧ ((5 : Int) - (0) + 1).toNat = (#[37, 48, 55, 62, 86, 97] : Array Int).size := by decide +kernel
theorem q223_76 : qD 223 76 (.aload_n 0) 1 77 ∧ ((0 : Fin 4) : Nat) = 0 := by decide +kernel
theorem q223_77 : qG 223 77 61 80 11 32 1297 2 := by decide +kernel
theorem q223_80 : qD 223 80 (.iconst 4) 1 81 ∧ Int32.ofInt (4) = (4 : Int32) := by decide +kernel
theorem q223_81 : qD 223 81 (.iload_n 1) 1 82 ∧ ((1 : Fin 4) : Nat) = 1 := by decide +kernel
theorem q223_82 : qD 223 82 (.imul) 1 83 := by decide +kernel
theorem q223_83 : qD 223 83 (.iconst 0) 1 84 ∧ Int32.ofInt (0) = (0 : Int32) := by decide +kernel
theorem q223_84 : qD 223 84 (.iadd) 1 85 := by decide +kernel
theorem q223_85 : qD 223 85 (.iaload) 1 86 := by decide +kernel
theorem q223_86 : qD 223 86 (.ireturn) 1 87 ∧ mR 223 = some .int := by decide +kernel
theorem q223_87 : qD 223 87 (.aload_n 0) 1 88 ∧ ((0 : Fin 4) : Nat) = 0 := by decide +kernel
theorem q223_88 : qD 223 88 (.iload_n 1) 1 89 ∧ ((1 : Fin 4) : Nat) = 1 := by decide +kernel
theorem q223_89 : qD 223 89 (.iconst 1) 1 90 ∧ Int32.ofInt (1) = (1 : Int32) := by decide +kernel
theorem q223_90 : qD 223 90 (.invokevirtual 291) 3 93 ∧ qI 223 291 211 1588 := by decide +kernel
theorem q223_93 : qD 223 93 (.ireturn) 1 94 ∧ mR 223 = some .int := by decide +kernel
theorem q223_94 : qD 223 94 (.aload_n 0) 1 95 ∧ ((0 : Fin 4) : Nat) = 0 := by decide +kernel
theorem q223_95 : qD 223 95 (.iload_n 1) 1 96 ∧ ((1 : Fin 4) : Nat) = 1 := by decide +kernel
theorem q223_96 : qD 223 96 (.iconst 2) 1 97 ∧ Int32.ofInt (2) = (2 : Int32) := by decide +kernel
theorem q223_97 : qD 223 97 (.invokevirtual 291) 3 100 ∧ qI 223 291 211 1588 := by decide +kernel
theorem q223_100 : qD 223 100 (.ireturn) 1 101 ∧ mR 223 = some .int := by decide +kernel
theorem q223_101 : qD 223 101 (.aload_n 0) 1 102 ∧ ((0 : Fin 4) : Nat) = 0 := by decide +kernel
theorem q223_102 : qD 223 102 (.iload_n 1) 1 103 ∧ ((1 : Fin 4) : Nat) = 1 := by decide +kernel
theorem q223_103 : qD 223 103 (.iconst 3) 1 104 ∧ Int32.ofInt (3) = (3 : Int32) := by decide +kernel
theorem q223_104 : qD 223 104 (.invokevirtual 291) 3 107 ∧ qI 223 291 211 1588 := by decide +kernel
theorem q223_107 : qD 223 107 (.aload_n 0) 1 108 ∧ ((0 : Fin 4) : Nat) = 0 := by decide +kernel
theorem q223_108 : qG 223 108 288 111 11 27 1292 0 := by decide +kernel
theorem q223_111 : qJ 223 111 (.if_icmp .ge 12) 114 (12) 123 := by decide +kernel
theorem q223_114 : qD 223 114 (.aload_n 0) 1 115 ∧ ((0 : Fin 4) : Nat) = 0 := by decide +kernel
theorem q223_115 : qD 223 115 (.iload_n 1) 1 116 ∧ ((1 : Fin 4) : Nat) = 1 := by decide +kernel
theorem q223_116 : qD 223 116 (.iconst 3) 1 117 ∧ Int32.ofInt (3) = (3 : Int32) := by decide +kernel
theorem q223_117 : qD 223 117 (.invokevirtual 291) 3 120 ∧ qI 223 291 211 1588 := by decide +kernel
theorem q223_120 : qJ 223 120 (.goto 4) 123 (4) 124 := by decide +kernel
theorem q223_123 : qD 223 123 (.iconst (-1)) 1 124 ∧ Int32.ofInt (-1) = (-1 : Int32) := by decide +kernel
theorem q223_124 : qD 223 124 (.ireturn) 1 125 ∧ mR 223 = some .int := by decide +kernel
theorem q223_125 : qD 223 125 (.aload_n 0) 1 126 ∧ ((0 : Fin 4) : Nat) = 0 := by decide +kernel
theorem q223_126 : qG 223 126 61 129 11 32 1297 2 := by decide +kernel
theorem q223_129 : qD 223 129 (.iconst 4) 1 130 ∧ Int32.ofInt (4) = (4 : Int32) := by decide +kernel
theorem q223_130 : qD 223 130 (.iload_n 1) 1 131 ∧ ((1 : Fin 4) : Nat) = 1 := by decide +kernel
theorem q223_131 : qD 223 131 (.imul) 1 132 := by decide +kernel
theorem q223_132 : qD 223 132 (.iconst 1) 1 133 ∧ Int32.ofInt (1) = (1 : Int32) := by decide +kernel
theorem q223_133 : qD 223 133 (.iadd) 1 134 := by decide +kernel
theorem q223_134 : qD 223 134 (.iaload) 1 135 := by decide +kernel
theorem q223_135 : qD 223 135 (.ireturn) 1 136 ∧ mR 223 = some .int := by decide +kernel
theorem q223_136 : qD 223 136 (.aload_n 0) 1 137 ∧ ((0 : Fin 4) : Nat) = 0 := by decide +kernel
theorem q223_137 : qG 223 137 61 140 11 32 1297 2 := by decide +kernel
theorem q223_140 : qD 223 140 (.iconst 4) 1 141 ∧ Int32.ofInt (4) = (4 : Int32) := by decide +kernel
theorem q223_141 : qD 223 141 (.iload_n 1) 1 142 ∧ ((1 : Fin 4) : Nat) = 1 := by decide +kernel
theorem q223_142 : qD 223 142 (.imul) 1 143 := by decide +kernel
theorem q223_143 : qD 223 143 (.iconst 2) 1 144 ∧ Int32.ofInt (2) = (2 : Int32) := by decide +kernel
theorem q223_144 : qD 223 144 (.iadd) 1 145 := by decide +kernel
theorem q223_145 : qD 223 145 (.iaload) 1 146 := by decide +kernel
theorem q223_146 : qD 223 146 (.ireturn) 1 147 ∧ mR 223 = some .int := by decide +kernel
theorem q223_147 : qD 223 147 (.aload_n 0) 1 148 ∧ ((0 : Fin 4) : Nat) = 0 := by decide +kernel
theorem q223_148 : qG 223 148 61 151 11 32 1297 2 := by decide +kernel
theorem q223_151 : qD 223 151 (.iconst 4) 1 152 ∧ Int32.ofInt (4) = (4 : Int32) := by decide +kernel
theorem q223_152 : qD 223 152 (.iload_n 1) 1 153 ∧ ((1 : Fin 4) : Nat) = 1 := by decide +kernel
theorem q223_153 : qD 223 153 (.imul) 1 154 := by decide +kernel
theorem q223_154 : qD 223 154 (.iconst 3) 1 155 ∧ Int32.ofInt (3) = (3 : Int32) := by decide +kernel
theorem q223_155 : qD 223 155 (.iadd) 1 156 := by decide +kernel
theorem q223_156 : qD 223 156 (.iaload) 1 157 := by decide +kernel
theorem q223_157 : qD 223 157 (.ireturn) 1 158 ∧ mR 223 = some .int := by decide +kernel
theorem q224_0 : qD 224 0 (.aload_n 0) 1 1 ∧ ((0 : Fin 4) : Nat) = 0 := by decide +kernel
theorem q224_1 : qD 224 1 (.iconst 0) 1 2 ∧ Int32.ofInt (0) = (0 : Int32) := by decide +kernel
theorem q224_2 : qP 224 2 90 5 11 0 1265 0 := by decide +kernel
theorem q224_5 : qD 224 5 (.aload_n 0) 1 6 ∧ ((0 : Fin 4) : Nat) = 0 := by decide +kernel
theorem q224_6 : qD 224 6 (.iload_n 1) 1 7 ∧ ((1 : Fin 4) : Nat) = 1 := by decide +kernel
theorem q224_7 : qD 224 7 (.invokevirtual 344) 3 10 ∧ qI 224 344 209 1601 := by decide +kernel
theorem q224_10 : qJ 224 10 (.ifCond .eq 13) 13 (13) 23 := by decide +kernel
theorem q224_13 : qD 224 13 (.iload_n 2) 1 14 ∧ ((2 : Fin 4) : Nat) = 2 := by decide +kernel
theorem q224_14 : qD 224 14 (.i2l) 1 15 := by decide +kernel
theorem q224_15 : qD 224 15 (.lconst 0) 1 16 ∧ Int64.ofNat ((0 : Fin 2) : Nat) = 0 := by decide +kernel
theorem q224_16 : qD 224 16 (.lconst 1) 1 17 ∧ Int64.ofNat ((1 : Fin 2) : Nat) = 1 := by decide +kernel
theorem q224_17 : qD 224 17 (.invokestatic 211) 3 20 ∧ qI 224 211 170 1435 := by decide +kernel
theorem q224_20 : qJ 224 20 (.ifCond .ne 5) 23 (5) 25 := by decide +kernel
theorem q224_23 : qD 224 23 (.iconst (-1)) 1 24 ∧ Int32.ofInt (-1) = (-1 : Int32) := by decide +kernel
theorem q224_24 : qD 224 24 (.ireturn) 1 25 ∧ mR 224 = some .int := by decide +kernel
theorem q224_25 : qD 224 25 (.iload_n 2) 1 26 ∧ ((2 : Fin 4) : Nat) = 2 := by decide +kernel
theorem q224_26 : qJ 224 26 (.ifCond .ne 12) 29 (12) 38 := by decide +kernel
theorem q224_29 : qD 224 29 (.aload_n 0) 1 30 ∧ ((0 : Fin 4) : Nat) = 0 := by decide +kernel
theorem q224_30 : qD 224 30 (.iload_n 1) 1 31 ∧ ((1 : Fin 4) : Nat) = 1 := by decide +kernel
theorem q224_31 : qD 224 31 (.iconst 0) 1 32 ∧ Int32.ofInt (0) = (0 : Int32) := by decide +kernel
theorem q224_32 : qD 224 32 (.invokevirtual 291) 3 35 ∧ qI 224 291 211 1588 := by decide +kernel
theorem q224_35 : qJ 224 35 (.goto 12) 38 (12) 47 := by decide +kernel
theorem q224_38 : qD 224 38 (.aload_n 0) 1 39 ∧ ((0 : Fin 4) : Nat) = 0 := by decide +kernel
theorem q224_39 : qD 224 39 (.aload_n 0) 1 40 ∧ ((0 : Fin 4) : Nat) = 0 := by decide +kernel
theorem q224_40 : qG 224 40 61 43 11 32 1297 2 := by decide +kernel
theorem q224_43 : qD 224 43 (.iload_n 1) 1 44 ∧ ((1 : Fin 4) : Nat) = 1 := by decide +kernel
theorem q224_44 : qD 224 44 (.invokevirtual 303) 3 47 ∧ qI 224 303 212 1610 := by decide +kernel
theorem q224_47 : qD 224 47 (.ireturn) 1 48 ∧ mR 224 = some .int := by decide +kernel
theorem q225_0 : qD 225 0 (.aload_n 0) 1 1 ∧ ((0 : Fin 4) : Nat) = 0 := by decide +kernel
theorem q225_1 : qD 225 1 (.iconst 0) 1 2 ∧ Int32.ofInt (0) = (0 : Int32) := by decide +kernel
theorem q225_2 : qP 225 2 90 5 11 0 1265 0 := by decide +kernel
theorem q225_5 : qD 225 5 (.aload_n 0) 1 6 ∧ ((0 : Fin 4) : Nat) = 0 := by decide +kernel
theorem q225_6 : qD 225 6 (.iload_n 1) 1 7 ∧ ((1 : Fin 4) : Nat) = 1 := by decide +kernel
theorem q225_7 : qD 225 7 (.invokevirtual 349) 3 10 ∧ qI 225 349 210 1618 := by decide +kernel
theorem q225_10 : qJ 225 10 (.ifCond .eq 15) 13 (15) 25 := by decide +kernel
theorem q225_13 : qD 225 13 (.iload_n 2) 1 14 ∧ ((2 : Fin 4) : Nat) = 2 := by decide +kernel
theorem q225_14 : qD 225 14 (.i2l) 1 15 := by decide +kernel
theorem q225_15 : qD 225 15 (.lconst 0) 1 16 ∧ Int64.ofNat ((0 : Fin 2) : Nat) = 0 := by decide +kernel
theorem q225_16 : qD 225 16 (.ldc2_w 266) 3 19 ∧ inG 1434 (.constantLong (mN 225).cls 266 (2)) := by decide +kernel
theorem q225_19 : qD 225 19 (.invokestatic 211) 3 22 ∧ qI 225 211 170 1435 := by decide +kernel
theorem q225_22 : qJ 225 22 (.ifCond .ne 5) 25 (5) 27 := by decide +kernel
theorem q225_25 : qD 225 25 (.iconst (-1)) 1 26 ∧ Int32.ofInt (-1) = (-1 : Int32) := by decide +kernel
theorem q225_26 : qD 225 26 (.ireturn) 1 27 ∧ mR 225 = some .int := by decide +kernel
theorem q225_27 : qD 225 27 (.iload_n 2) 1 28 ∧ ((2 : Fin 4) : Nat) = 2 := by decide +kernel
theorem q225_28 : qD 225 28 (.iconst 2) 1 29 ∧ Int32.ofInt (2) = (2 : Int32) := by decide +kernel
theorem q225_29 : qJ 225 29 (.if_icmp .ne 17) 32 (17) 46 := by decide +kernel
theorem q225_32 : qD 225 32 (.aload_n 0) 1 33 ∧ ((0 : Fin 4) : Nat) = 0 := by decide +kernel
theorem q225_33 : qG 225 33 61 36 11 32 1297 2 := by decide +kernel
theorem q225_36 : qD 225 36 (.bipush 28) 2 38 ∧ (Int8.ofInt (28)).toInt32 = (28 : Int32) := by decide +kernel
theorem q225_38 : qD 225 38 (.iaload) 1 39 := by decide +kernel
theorem q225_39 : qD 225 39 (.iload_n 1) 1 40 ∧ ((1 : Fin 4) : Nat) = 1 := by decide +kernel
theorem q225_40 : qD 225 40 (.ishr) 1 41 := by decide +kernel
theorem q225_41 : qD 225 41 (.iconst 1) 1 42 ∧ Int32.ofInt (1) = (1 : Int32) := by decide +kernel
theorem q225_42 : qD 225 42 (.iand) 1 43 := by decide +kernel
theorem q225_43 : qJ 225 43 (.goto 13) 46 (13) 56 := by decide +kernel
theorem q225_46 : qD 225 46 (.aload_n 0) 1 47 ∧ ((0 : Fin 4) : Nat) = 0 := by decide +kernel
theorem q225_47 : qG 225 47 49 50 11 22 1287 2 := by decide +kernel
theorem q225_50 : qD 225 50 (.iconst 2) 1 51 ∧ Int32.ofInt (2) = (2 : Int32) := by decide +kernel
theorem q225_51 : qD 225 51 (.iload_n 1) 1 52 ∧ ((1 : Fin 4) : Nat) = 1 := by decide +kernel
theorem q225_52 : qD 225 52 (.imul) 1 53 := by decide +kernel
theorem q225_53 : qD 225 53 (.iload_n 2) 1 54 ∧ ((2 : Fin 4) : Nat) = 2 := by decide +kernel
theorem q225_54 : qD 225 54 (.iadd) 1 55 := by decide +kernel
theorem q225_55 : qD 225 55 (.iaload) 1 56 := by decide +kernel
theorem q225_56 : qD 225 56 (.ireturn) 1 57 ∧ mR 225 = some .int := by decide +kernel
theorem q226_0 : qD 226 0 (.aload_n 0) 1 1 ∧ ((0 : Fin 4) : Nat) = 0 := by decide +kernel
theorem q226_1 : qD 226 1 (.iconst 0) 1 2 ∧ Int32.ofInt (0) = (0 : Int32) := by decide +kernel
theorem q226_2 : qP 226 2 90 5 11 0 1265 0 := by decide +kernel
theorem q226_5 : qD 226 5 (.iload_n 1) 1 6 ∧ ((1 : Fin 4) : Nat) = 1 := by decide +kernel
theorem q226_6 : qD 226 6 (.iconst (-1)) 1 7 ∧ Int32.ofInt (-1) = (-1 : Int32) := by decide +kernel
theorem q226_7 : qJ 226 7 (.if_icmp .eq 21) 10 (21) 28 := by decide +kernel
theorem q226_10 : qD 226 10 (.iload_n 1) 1 11 ∧ ((1 : Fin 4) : Nat) = 1 := by decide +kernel
theorem q226_11 : qD 226 11 (.i2l) 1 12 := by decide +kernel
theorem q226_12 : qD 226 12 (.lconst 0) 1 13 ∧ Int64.ofNat ((0 : Fin 2) : Nat) = 0 := by decide +kernel
theorem q226_13 : qD 226 13 (.aload_n 0) 1 14 ∧ ((0 : Fin 4) : Nat) = 0 := by decide +kernel
theorem q226_14 : qG 226 14 277 17 11 7 1272 0 := by decide +kernel
theorem q226_17 : qD 226 17 (.iconst 1) 1 18 ∧ Int32.ofInt (1) = (1 : Int32) := by decide +kernel
theorem q226_18 : qD 226 18 (.isub) 1 19 := by decide +kernel
theorem q226_19 : qD 226 19 (.i2l) 1 20 := by decide +kernel
theorem q226_20 : qD 226 20 (.invokestatic 211) 3 23 ∧ qI 226 211 170 1435 := by decide +kernel
theorem q226_23 : qJ 226 23 (.ifCond .ne 5) 26 (5) 28 := by decide +kernel
theorem q226_26 : qD 226 26 (.iconst 0) 1 27 ∧ Int32.ofInt (0) = (0 : Int32) := by decide +kernel
theorem q226_27 : qD 226 27 (.ireturn) 1 28 ∧ mR 226 = some .boolean := by decide +kernel
theorem q226_28 : qD 226 28 (.aload_n 0) 1 29 ∧ ((0 : Fin 4) : Nat) = 0 := by decide +kernel
theorem q226_29 : qD 226 29 (.iload_n 1) 1 30 ∧ ((1 : Fin 4) : Nat) = 1 := by decide +kernel
theorem q226_30 : qP 226 30 67 33 11 34 1299 0 := by decide +kernel
theorem q226_33 : qD 226 33 (.iconst 1) 1 34 ∧ Int32.ofInt (1) = (1 : Int32) := by decide +kernel
theorem q226_34 : qD 226 34 (.ireturn) 1 35 ∧ mR 226 = some .boolean := by decide +kernel
theorem q227_0 : qD 227 0 (.aload_n 0) 1 1 ∧ ((0 : Fin 4) : Nat) = 0 := by decide +kernel
theorem q227_1 : qD 227 1 (.iconst 0) 1 2 ∧ Int32.ofInt (0) = (0 : Int32) := by decide +kernel
theorem q227_2 : qP 227 2 90 5 11 0 1265 0 := by decide +kernel
theorem q227_5 : qD 227 5 (.iload_n 1) 1 6 ∧ ((1 : Fin 4) : Nat) = 1 := by decide +kernel
theorem q227_6 : qD 227 6 (.i2l) 1 7 := by decide +kernel
theorem q227_7 : qD 227 7 (.lconst 0) 1 8 ∧ Int64.ofNat ((0 : Fin 2) : Nat) = 0 := by decide +kernel
theorem q227_8 : qD 227 8 (.ldc2_w 352) 3 11 ∧ inG 1630 (.constantLong (mN 227).cls 352 (9)) := by decide +kernel
theorem q227_11 : qD 227 11 (.invokestatic 211) 3 14 ∧ qI 227 211 170 1435 := by decide +kernel
theorem q227_14 : qJ 227 14 (.ifCond .eq 11) 17 (11) 25 := by decide +kernel
theorem q227_17 : qD 227 17 (.iload_n 1) 1 18 ∧ ((1 : Fin 4) : Nat) = 1 := by decide +kernel
theorem q227_18 : qD 227 18 (.aload_n 0) 1 19 ∧ ((0 : Fin 4) : Nat) = 0 := by decide +kernel
theorem q227_19 : qG 227 19 354 22 11 35 1300 0 := by decide +kernel
theorem q227_22 : qJ 227 22 (.if_icmp .ne 5) 25 (5) 27 := by decide +kernel
theorem q227_25 : qD 227 25 (.iconst 0) 1 26 ∧ Int32.ofInt (0) = (0 : Int32) := by decide +kernel
theorem q227_26 : qD 227 26 (.ireturn) 1 27 ∧ mR 227 = some .boolean := by decide +kernel
theorem q227_27 : qD 227 27 (.aload_n 0) 1 28 ∧ ((0 : Fin 4) : Nat) = 0 := by decide +kernel
theorem q227_28 : qD 227 28 (.iload_n 1) 1 29 ∧ ((1 : Fin 4) : Nat) = 1 := by decide +kernel
theorem q227_29 : qP 227 29 354 32 11 35 1300 0 := by decide +kernel
theorem q227_32 : qD 227 32 (.iconst 1) 1 33 ∧ Int32.ofInt (1) = (1 : Int32) := by decide +kernel
theorem q227_33 : qD 227 33 (.ireturn) 1 34 ∧ mR 227 = some .boolean := by decide +kernel
theorem q228_0 : qD 228 0 (.aload_n 0) 1 1 ∧ ((0 : Fin 4) : Nat) = 0 := by decide +kernel
theorem q228_1 : qG 228 1 297 4 11 38 1303 0 := by decide +kernel
theorem q228_4 : qD 228 4 (.bipush 40) 2 6 ∧ (Int8.ofInt (40)).toInt32 = (40 : Int32) := by decide +kernel
theorem q228_6 : qJ 228 6 (.if_icmp .ne 44) 9 (44) 50 := by decide +kernel
theorem q228_9 : qD 228 9 (.iconst 0) 1 10 ∧ Int32.ofInt (0) = (0 : Int32) := by decide +kernel
theorem q228_10 : qD 228 10 (.istore_n 1) 1 11 ∧ ((1 : Fin 4) : Nat) = 1 ∧ 1 < mL 228 := by decide +kernel
theorem q228_11 : qD 228 11 (.iload_n 1) 1 12 ∧ ((1 : Fin 4) : Nat) = 1 := by decide +kernel
theorem q228_12 : qD 228 12 (.sipush 8346) 3 15 ∧ (Int16.ofInt (8346)).toInt32 = (8346 : Int32) := by decide +kernel
theorem q228_15 : qJ 228 15 (.if_icmp .ge 25) 18 (25) 40 := by decide +kernel
