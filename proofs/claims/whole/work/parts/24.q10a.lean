theorem q86_0 : qD 86 0 (.aload_n 0) 1 1 ∧ ((0 : Fin 4) : Nat) = 0 := by decide +kernel
theorem q86_1 : qD 86 1 (.invokespecial 1) 3 4 ∧ inG 141 (.methodLink (mN 86).cls 1 Lib.objectInit) := by decide +kernel
theorem q86_4 : qD 86 4 (.aload_n 0) 1 5 ∧ ((0 : Fin 4) : Nat) = 0 := by decide +kernel
theorem q86_5 : qD 86 5 (.new 7) 3 8 ∧ 8 < 12 ∧ inG 144 (.classLink (mN 86).cls 7 (vC 8)) ∧ inG 145 (.instantiable (vC 8) (vN 8)) ∧ inG 112 (.initialized (vC 8)) := by decide +kernel
theorem q86_8 : qD 86 8 (.dup) 1 9 := by decide +kernel
theorem q86_9 : qD 86 9 (.invokespecial 9) 3 12 ∧ qI 86 9 64 146 ∧ mR 64 = none := by decide +kernel
theorem q86_12 : qP 86 12 10 15 10 0 324 2 := by decide +kernel
theorem q86_15 : qD 86 15 (.aload_n 0) 1 16 ∧ ((0 : Fin 4) : Nat) = 0 := by decide +kernel
theorem q86_16 : qD 86 16 (.new 16) 3 19 ∧ 3 < 12 ∧ inG 166 (.classLink (mN 86).cls 16 (vC 3)) ∧ inG 167 (.instantiable (vC 3) (vN 3)) ∧ inG 113 (.initialized (vC 3)) := by decide +kernel
theorem q86_19 : qD 86 19 (.dup) 1 20 := by decide +kernel
theorem q86_20 : qD 86 20 (.invokespecial 18) 3 23 ∧ qI 86 18 12 168 ∧ mR 12 = none := by decide +kernel
theorem q86_23 : qP 86 23 19 26 10 1 325 2 := by decide +kernel
theorem q86_26 : qD 86 26 (.aload_n 0) 1 27 ∧ ((0 : Fin 4) : Nat) = 0 := by decide +kernel
theorem q86_27 : qD 86 27 (.new 16) 3 30 ∧ 3 < 12 ∧ inG 166 (.classLink (mN 86).cls 16 (vC 3)) ∧ inG 167 (.instantiable (vC 3) (vN 3)) ∧ inG 113 (.initialized (vC 3)) := by decide +kernel
theorem q86_30 : qD 86 30 (.dup) 1 31 := by decide +kernel
theorem q86_31 : qD 86 31 (.invokespecial 18) 3 34 ∧ qI 86 18 12 168 ∧ mR 12 = none := by decide +kernel
theorem q86_34 : qP 86 34 23 37 10 2 326 2 := by decide +kernel
theorem q86_37 : qD 86 37 (.aload_n 0) 1 38 ∧ ((0 : Fin 4) : Nat) = 0 := by decide +kernel
theorem q86_38 : qD 86 38 (.iconst 5) 1 39 ∧ Int32.ofInt (5) = (5 : Int32) := by decide +kernel
theorem q86_39 : qD 86 39 (.anewarray 26) 3 42 ∧ ((104 = 104 ∧ RX5 = RX5) ∨ (104 = 105 ∧ RX5 = RX6)) ∧ inG 198 (.classLink (mN 86).cls 26 RX5) := by decide +kernel
theorem q86_42 : qP 86 42 28 45 10 3 327 2 := by decide +kernel
theorem q86_45 : qD 86 45 (.aload_n 0) 1 46 ∧ ((0 : Fin 4) : Nat) = 0 := by decide +kernel
theorem q86_46 : qD 86 46 (.iconst 5) 1 47 ∧ Int32.ofInt (5) = (5 : Int32) := by decide +kernel
theorem q86_47 : qD 86 47 (.anewarray 32) 3 50 ∧ ((105 = 104 ∧ RX6 = RX5) ∨ (105 = 105 ∧ RX6 = RX6)) ∧ inG 200 (.classLink (mN 86).cls 32 RX6) := by decide +kernel
theorem q86_50 : qP 86 50 34 53 10 6 330 2 := by decide +kernel
theorem q86_53 : qD 86 53 (.iconst 0) 1 54 ∧ Int32.ofInt (0) = (0 : Int32) := by decide +kernel
theorem q86_54 : qD 86 54 (.istore_n 1) 1 55 ∧ ((1 : Fin 4) : Nat) = 1 ∧ 1 < mL 86 := by decide +kernel
theorem q86_55 : qD 86 55 (.iload_n 1) 1 56 ∧ ((1 : Fin 4) : Nat) = 1 := by decide +kernel
theorem q86_56 : qD 86 56 (.iconst 4) 1 57 ∧ Int32.ofInt (4) = (4 : Int32) := by decide +kernel
theorem q86_57 : qJ 86 57 (.if_icmp .gt 35) 60 (35) 92 := by decide +kernel
theorem q86_60 : qD 86 60 (.aload_n 0) 1 61 ∧ ((0 : Fin 4) : Nat) = 0 := by decide +kernel
theorem q86_61 : qG 86 61 28 64 10 3 327 2 := by decide +kernel
theorem q86_64 : qD 86 64 (.iload_n 1) 1 65 ∧ ((1 : Fin 4) : Nat) = 1 := by decide +kernel
theorem q86_65 : qD 86 65 (.new 26) 3 68 ∧ 5 < 12 ∧ inG 198 (.classLink (mN 86).cls 26 (vC 5)) ∧ inG 202 (.instantiable (vC 5) (vN 5)) ∧ inG 114 (.initialized (vC 5)) := by decide +kernel
theorem q86_68 : qD 86 68 (.dup) 1 69 := by decide +kernel
theorem q86_69 : qD 86 69 (.invokespecial 38) 3 72 ∧ qI 86 38 33 203 ∧ mR 33 = none := by decide +kernel
theorem q86_72 : qD 86 72 (.aastore) 1 73 := by decide +kernel
theorem q86_73 : qD 86 73 (.aload_n 0) 1 74 ∧ ((0 : Fin 4) : Nat) = 0 := by decide +kernel
theorem q86_74 : qG 86 74 34 77 10 6 330 2 := by decide +kernel
theorem q86_77 : qD 86 77 (.iload_n 1) 1 78 ∧ ((1 : Fin 4) : Nat) = 1 := by decide +kernel
theorem q86_78 : qD 86 78 (.new 32) 3 81 ∧ 6 < 12 ∧ inG 200 (.classLink (mN 86).cls 32 (vC 6)) ∧ inG 217 (.instantiable (vC 6) (vN 6)) ∧ inG 115 (.initialized (vC 6)) := by decide +kernel
theorem q86_81 : qD 86 81 (.dup) 1 82 := by decide +kernel
theorem q86_82 : qD 86 82 (.invokespecial 39) 3 85 ∧ qI 86 39 49 218 ∧ mR 49 = none := by decide +kernel
theorem q86_85 : qD 86 85 (.aastore) 1 86 := by decide +kernel
theorem q86_86 : qD 86 86 (.iinc 1 1) 3 89 ∧ 1 < mL 86 ∧ Int32.ofInt (1) = (1 : Int32) := by decide +kernel
theorem q86_89 : qJ 86 89 (.goto (-34)) 92 (-34) 55 := by decide +kernel
theorem q86_92 : qD 86 92 (.aload_n 0) 1 93 ∧ ((0 : Fin 4) : Nat) = 0 := by decide +kernel
theorem q86_93 : qD 86 93 (.iconst (-1)) 1 94 ∧ Int32.ofInt (-1) = (-1 : Int32) := by decide +kernel
theorem q86_94 : qP 86 94 40 97 10 5 329 0 := by decide +kernel
theorem q86_97 : qD 86 97 (.aload_n 0) 1 98 ∧ ((0 : Fin 4) : Nat) = 0 := by decide +kernel
theorem q86_98 : qD 86 98 (.new 44) 3 101 ∧ 7 < 12 ∧ inG 230 (.classLink (mN 86).cls 44 (vC 7)) ∧ inG 231 (.instantiable (vC 7) (vN 7)) ∧ inG 116 (.initialized (vC 7)) := by decide +kernel
theorem q86_101 : qD 86 101 (.dup) 1 102 := by decide +kernel
theorem q86_102 : qD 86 102 (.invokespecial 46) 3 105 ∧ qI 86 46 53 232 ∧ mR 53 = none := by decide +kernel
theorem q86_105 : qP 86 105 47 108 10 9 333 2 := by decide +kernel
theorem q86_108 : qD 86 108 (.aload_n 0) 1 109 ∧ ((0 : Fin 4) : Nat) = 0 := by decide +kernel
theorem q86_109 : qD 86 109 (.new 44) 3 112 ∧ 7 < 12 ∧ inG 230 (.classLink (mN 86).cls 44 (vC 7)) ∧ inG 231 (.instantiable (vC 7) (vN 7)) ∧ inG 116 (.initialized (vC 7)) := by decide +kernel
theorem q86_112 : qD 86 112 (.dup) 1 113 := by decide +kernel
theorem q86_113 : qD 86 113 (.invokespecial 46) 3 116 ∧ qI 86 46 53 232 ∧ mR 53 = none := by decide +kernel
theorem q86_116 : qP 86 116 51 119 10 10 334 2 := by decide +kernel
theorem q86_119 : qD 86 119 (.aload_n 0) 1 120 ∧ ((0 : Fin 4) : Nat) = 0 := by decide +kernel
theorem q86_120 : qD 86 120 (.new 44) 3 123 ∧ 7 < 12 ∧ inG 230 (.classLink (mN 86).cls 44 (vC 7)) ∧ inG 231 (.instantiable (vC 7) (vN 7)) ∧ inG 116 (.initialized (vC 7)) := by decide +kernel
theorem q86_123 : qD 86 123 (.dup) 1 124 := by decide +kernel
theorem q86_124 : qD 86 124 (.invokespecial 46) 3 127 ∧ qI 86 46 53 232 ∧ mR 53 = none := by decide +kernel
theorem q86_127 : qP 86 127 54 130 10 11 335 2 := by decide +kernel
theorem q86_130 : qD 86 130 (.aload_n 0) 1 131 ∧ ((0 : Fin 4) : Nat) = 0 := by decide +kernel
theorem q86_131 : qD 86 131 (.new 57) 3 134 ∧ 2 < 12 ∧ inG 244 (.classLink (mN 86).cls 57 (vC 2)) ∧ inG 245 (.instantiable (vC 2) (vN 2)) ∧ inG 117 (.initialized (vC 2)) := by decide +kernel
theorem q86_134 : qD 86 134 (.dup) 1 135 := by decide +kernel
theorem q86_135 : qD 86 135 (.invokespecial 59) 3 138 ∧ qI 86 59 8 246 ∧ mR 8 = none := by decide +kernel
theorem q86_138 : qP 86 138 60 141 10 13 337 2 := by decide +kernel
theorem q86_141 : qD 86 141 (.aload_n 0) 1 142 ∧ ((0 : Fin 4) : Nat) = 0 := by decide +kernel
theorem q86_142 : qD 86 142 (.new 57) 3 145 ∧ 2 < 12 ∧ inG 244 (.classLink (mN 86).cls 57 (vC 2)) ∧ inG 245 (.instantiable (vC 2) (vN 2)) ∧ inG 117 (.initialized (vC 2)) := by decide +kernel
theorem q86_145 : qD 86 145 (.dup) 1 146 := by decide +kernel
theorem q86_146 : qD 86 146 (.invokespecial 59) 3 149 ∧ qI 86 59 8 246 ∧ mR 8 = none := by decide +kernel
theorem q86_149 : qP 86 149 64 152 10 14 338 2 := by decide +kernel
theorem q86_152 : qD 86 152 (.aload_n 0) 1 153 ∧ ((0 : Fin 4) : Nat) = 0 := by decide +kernel
theorem q86_153 : qD 86 153 (.new 67) 3 156 ∧ 0 < 12 ∧ inG 254 (.classLink (mN 86).cls 67 (vC 0)) ∧ inG 255 (.instantiable (vC 0) (vN 0)) ∧ inG 118 (.initialized (vC 0)) := by decide +kernel
theorem q86_156 : qD 86 156 (.dup) 1 157 := by decide +kernel
theorem q86_157 : qD 86 157 (.invokespecial 69) 3 160 ∧ qI 86 69 0 256 ∧ mR 0 = none := by decide +kernel
theorem q86_160 : qP 86 160 70 163 10 15 339 2 := by decide +kernel
theorem q86_163 : qD 86 163 (.aload_n 0) 1 164 ∧ ((0 : Fin 4) : Nat) = 0 := by decide +kernel
theorem q86_164 : qD 86 164 (.new 74) 3 167 ∧ 4 < 12 ∧ inG 271 (.classLink (mN 86).cls 74 (vC 4)) ∧ inG 272 (.instantiable (vC 4) (vN 4)) ∧ inG 119 (.initialized (vC 4)) := by decide +kernel
theorem q86_167 : qD 86 167 (.dup) 1 168 := by decide +kernel
theorem q86_168 : qD 86 168 (.invokespecial 76) 3 171 ∧ qI 86 76 27 273 ∧ mR 27 = none := by decide +kernel
theorem q86_171 : qP 86 171 77 174 10 16 340 2 := by decide +kernel
theorem q86_174 : qD 86 174 (.aload_n 0) 1 175 ∧ ((0 : Fin 4) : Nat) = 0 := by decide +kernel
theorem q86_175 : qD 86 175 (.new 81) 3 178 ∧ 9 < 12 ∧ inG 289 (.classLink (mN 86).cls 81 (vC 9)) ∧ inG 290 (.instantiable (vC 9) (vN 9)) ∧ inG 120 (.initialized (vC 9)) := by decide +kernel
theorem q86_178 : qD 86 178 (.dup) 1 179 := by decide +kernel
theorem q86_179 : qD 86 179 (.invokespecial 83) 3 182 ∧ qI 86 83 80 291 ∧ mR 80 = none := by decide +kernel
theorem q86_182 : qP 86 182 84 185 10 17 341 2 := by decide +kernel
theorem q86_185 : qD 86 185 (.aload_n 0) 1 186 ∧ ((0 : Fin 4) : Nat) = 0 := by decide +kernel
theorem q86_186 : qD 86 186 (.new 88) 3 189 ∧ 1 < 12 ∧ inG 306 (.classLink (mN 86).cls 88 (vC 1)) ∧ inG 307 (.instantiable (vC 1) (vN 1)) ∧ inG 121 (.initialized (vC 1)) := by decide +kernel
theorem q86_189 : qD 86 189 (.dup) 1 190 := by decide +kernel
theorem q86_190 : qD 86 190 (.invokespecial 90) 3 193 ∧ qI 86 90 4 308 ∧ mR 4 = none := by decide +kernel
theorem q86_193 : qP 86 193 91 196 10 18 342 2 := by decide +kernel
theorem q86_196 : qD 86 196 (.return_) 1 197 ∧ mR 86 = none := by decide +kernel
theorem q87_0 : qD 87 0 (.iload_n 1) 1 1 ∧ ((1 : Fin 4) : Nat) = 1 := by decide +kernel
theorem q87_1 : qD 87 1 (.invokestatic 95) 3 4 ∧ qI 87 95 65 389 := by decide +kernel
theorem q87_4 : qD 87 4 (.iload_n 2) 1 5 ∧ ((2 : Fin 4) : Nat) = 2 := by decide +kernel
theorem q87_5 : qD 87 5 (.invokestatic 95) 3 8 ∧ qI 87 95 65 389 := by decide +kernel
theorem q87_8 : qD 87 8 (.iadd) 1 9 := by decide +kernel
theorem q87_9 : qD 87 9 (.iload_n 3) 1 10 ∧ ((3 : Fin 4) : Nat) = 3 := by decide +kernel
theorem q87_10 : qD 87 10 (.invokestatic 95) 3 13 ∧ qI 87 95 65 389 := by decide +kernel
theorem q87_13 : qD 87 13 (.iadd) 1 14 := by decide +kernel
theorem q87_14 : qD 87 14 (.iload 4) 2 16 := by decide +kernel
theorem q87_16 : qD 87 16 (.invokestatic 95) 3 19 ∧ qI 87 95 65 389 := by decide +kernel
theorem q87_19 : qD 87 19 (.iadd) 1 20 := by decide +kernel
theorem q87_20 : qD 87 20 (.iload 5) 2 22 := by decide +kernel
theorem q87_22 : qD 87 22 (.invokestatic 95) 3 25 ∧ qI 87 95 65 389 := by decide +kernel
theorem q87_25 : qD 87 25 (.iadd) 1 26 := by decide +kernel
theorem q87_26 : qD 87 26 (.istore 6) 2 28 ∧ 6 < mL 87 := by decide +kernel
theorem q87_28 : qD 87 28 (.aload_n 0) 1 29 ∧ ((0 : Fin 4) : Nat) = 0 := by decide +kernel
theorem q87_29 : qG 87 29 10 32 10 0 324 2 := by decide +kernel
theorem q87_32 : qG 87 32 99 35 8 1 151 0 := by decide +kernel
theorem q87_35 : qD 87 35 (.iload 6) 2 37 := by decide +kernel
theorem q87_37 : qD 87 37 (.iadd) 1 38 := by decide +kernel
theorem q87_38 : qD 87 38 (.sipush 240) 3 41 ∧ (Int16.ofInt (240)).toInt32 = (240 : Int32) := by decide +kernel
theorem q87_41 : qJ 87 41 (.if_icmp .le 5) 44 (5) 46 := by decide +kernel
theorem q87_44 : qD 87 44 (.iconst (-1)) 1 45 ∧ Int32.ofInt (-1) = (-1 : Int32) := by decide +kernel
theorem q87_45 : qD 87 45 (.ireturn) 1 46 ∧ mR 87 = some .int := by decide +kernel
theorem q87_46 : qD 87 46 (.aload_n 0) 1 47 ∧ ((0 : Fin 4) : Nat) = 0 := by decide +kernel
theorem q87_47 : qG 87 47 10 50 10 0 324 2 := by decide +kernel
theorem q87_50 : qD 87 50 (.iload_n 1) 1 51 ∧ ((1 : Fin 4) : Nat) = 1 := by decide +kernel
theorem q87_51 : qD 87 51 (.invokevirtual 102) 3 54 ∧ qI 87 102 66 392 := by decide +kernel
theorem q87_54 : qD 87 54 (.aload_n 0) 1 55 ∧ ((0 : Fin 4) : Nat) = 0 := by decide +kernel
theorem q87_55 : qG 87 55 10 58 10 0 324 2 := by decide +kernel
theorem q87_58 : qD 87 58 (.iload_n 2) 1 59 ∧ ((2 : Fin 4) : Nat) = 2 := by decide +kernel
theorem q87_59 : qD 87 59 (.invokevirtual 102) 3 62 ∧ qI 87 102 66 392 := by decide +kernel
theorem q87_62 : qD 87 62 (.aload_n 0) 1 63 ∧ ((0 : Fin 4) : Nat) = 0 := by decide +kernel
theorem q87_63 : qG 87 63 10 66 10 0 324 2 := by decide +kernel
theorem q87_66 : qD 87 66 (.iload_n 3) 1 67 ∧ ((3 : Fin 4) : Nat) = 3 := by decide +kernel
theorem q87_67 : qD 87 67 (.invokevirtual 102) 3 70 ∧ qI 87 102 66 392 := by decide +kernel
theorem q87_70 : qD 87 70 (.aload_n 0) 1 71 ∧ ((0 : Fin 4) : Nat) = 0 := by decide +kernel
theorem q87_71 : qG 87 71 10 74 10 0 324 2 := by decide +kernel
theorem q87_74 : qD 87 74 (.iload 4) 2 76 := by decide +kernel
theorem q87_76 : qD 87 76 (.invokevirtual 102) 3 79 ∧ qI 87 102 66 392 := by decide +kernel
theorem q87_79 : qD 87 79 (.aload_n 0) 1 80 ∧ ((0 : Fin 4) : Nat) = 0 := by decide +kernel
theorem q87_80 : qG 87 80 10 83 10 0 324 2 := by decide +kernel
theorem q87_83 : qD 87 83 (.iload 5) 2 85 := by decide +kernel
theorem q87_85 : qD 87 85 (.invokevirtual 102) 3 88 ∧ qI 87 102 66 392 := by decide +kernel
theorem q87_88 : qD 87 88 (.aload_n 0) 1 89 ∧ ((0 : Fin 4) : Nat) = 0 := by decide +kernel
theorem q87_89 : qG 87 89 10 92 10 0 324 2 := by decide +kernel
theorem q87_92 : qG 87 92 99 95 8 1 151 0 := by decide +kernel
theorem q87_95 : qD 87 95 (.ireturn) 1 96 ∧ mR 87 = some .int := by decide +kernel
theorem q88_0 : qD 88 0 (.iload_n 1) 1 1 ∧ ((1 : Fin 4) : Nat) = 1 := by decide +kernel
theorem q88_1 : qJ 88 1 (.ifCond .lt 14) 4 (14) 15 := by decide +kernel
theorem q88_4 : qD 88 4 (.iload_n 1) 1 5 ∧ ((1 : Fin 4) : Nat) = 1 := by decide +kernel
theorem q88_5 : qD 88 5 (.aload_n 0) 1 6 ∧ ((0 : Fin 4) : Nat) = 0 := by decide +kernel
theorem q88_6 : qG 88 6 10 9 10 0 324 2 := by decide +kernel
theorem q88_9 : qG 88 9 99 12 8 1 151 0 := by decide +kernel
theorem q88_12 : qJ 88 12 (.if_icmp .le 5) 15 (5) 17 := by decide +kernel
theorem q88_15 : qD 88 15 (.iconst 0) 1 16 ∧ Int32.ofInt (0) = (0 : Int32) := by decide +kernel
theorem q88_16 : qD 88 16 (.ireturn) 1 17 ∧ mR 88 = some .boolean := by decide +kernel
theorem q88_17 : qD 88 17 (.aload_n 0) 1 18 ∧ ((0 : Fin 4) : Nat) = 0 := by decide +kernel
theorem q88_18 : qG 88 18 10 21 10 0 324 2 := by decide +kernel
theorem q88_21 : qD 88 21 (.iload_n 1) 1 22 ∧ ((1 : Fin 4) : Nat) = 1 := by decide +kernel
theorem q88_22 : qP 88 22 99 25 8 1 151 0 := by decide +kernel
theorem q88_25 : qD 88 25 (.iconst 1) 1 26 ∧ Int32.ofInt (1) = (1 : Int32) := by decide +kernel
theorem q88_26 : qD 88 26 (.ireturn) 1 27 ∧ mR 88 = some .boolean := by decide +kernel
theorem q89_0 : qD 89 0 (.iload_n 1) 1 1 ∧ ((1 : Fin 4) : Nat) = 1 := by decide +kernel
theorem q89_1 : qD 89 1 (.invokestatic 106) 3 4 ∧ qI 89 106 91 404 := by decide +kernel
theorem q89_4 : qJ 89 4 (.ifCond .eq 11) 7 (11) 15 := by decide +kernel
theorem q89_7 : qD 89 7 (.aload_n 0) 1 8 ∧ ((0 : Fin 4) : Nat) = 0 := by decide +kernel
theorem q89_8 : qD 89 8 (.iload_n 1) 1 9 ∧ ((1 : Fin 4) : Nat) = 1 := by decide +kernel
theorem q89_9 : qD 89 9 (.invokevirtual 110) 3 12 ∧ qI 89 110 92 407 := by decide +kernel
theorem q89_12 : qJ 89 12 (.goto 5) 15 (5) 17 := by decide +kernel
theorem q89_15 : qD 89 15 (.bipush (-2)) 2 17 ∧ (Int8.ofInt (-2)).toInt32 = (-2 : Int32) := by decide +kernel
theorem q89_17 : qD 89 17 (.ireturn) 1 18 ∧ mR 89 = some .int := by decide +kernel
theorem q90_0 : qD 90 0 (.iload_n 1) 1 1 ∧ ((1 : Fin 4) : Nat) = 1 := by decide +kernel
theorem q90_1 : qD 90 1 (.invokestatic 106) 3 4 ∧ qI 90 106 91 404 := by decide +kernel
theorem q90_4 : qJ 90 4 (.ifCond .eq 12) 7 (12) 16 := by decide +kernel
theorem q90_7 : qD 90 7 (.aload_n 0) 1 8 ∧ ((0 : Fin 4) : Nat) = 0 := by decide +kernel
theorem q90_8 : qD 90 8 (.iload_n 1) 1 9 ∧ ((1 : Fin 4) : Nat) = 1 := by decide +kernel
theorem q90_9 : qD 90 9 (.invokevirtual 110) 3 12 ∧ qI 90 110 92 407 := by decide +kernel
theorem q90_12 : qD 90 12 (.iconst (-1)) 1 13 ∧ Int32.ofInt (-1) = (-1 : Int32) := by decide +kernel
theorem q90_13 : qJ 90 13 (.if_icmp .eq 5) 16 (5) 18 := by decide +kernel
theorem q90_16 : qD 90 16 (.iconst (-1)) 1 17 ∧ Int32.ofInt (-1) = (-1 : Int32) := by decide +kernel
theorem q90_17 : qD 90 17 (.ireturn) 1 18 ∧ mR 90 = some .int := by decide +kernel
theorem q90_18 : qD 90 18 (.iload_n 1) 1 19 ∧ ((1 : Fin 4) : Nat) = 1 := by decide +kernel
theorem q90_19 : qJ 90 19 (.ifCond .ne 16) 22 (16) 35 := by decide +kernel
theorem q90_22 : qD 90 22 (.aload_n 0) 1 23 ∧ ((0 : Fin 4) : Nat) = 0 := by decide +kernel
theorem q90_23 : qG 90 23 10 26 10 0 324 2 := by decide +kernel
theorem q90_26 : qD 90 26 (.iconst 0) 1 27 ∧ Int32.ofInt (0) = (0 : Int32) := by decide +kernel
theorem q90_27 : qP 90 27 99 30 8 1 151 0 := by decide +kernel
theorem q90_30 : qD 90 30 (.aload_n 0) 1 31 ∧ ((0 : Fin 4) : Nat) = 0 := by decide +kernel
theorem q90_31 : qD 90 31 (.invokevirtual 113) 3 34 ∧ qI 90 113 93 663 := by decide +kernel
theorem q90_34 : qD 90 34 (.ireturn) 1 35 ∧ mR 90 = some .int := by decide +kernel
theorem q90_35 : qD 90 35 (.iload_n 1) 1 36 ∧ ((1 : Fin 4) : Nat) = 1 := by decide +kernel
theorem q90_36 : qD 90 36 (.iconst 1) 1 37 ∧ Int32.ofInt (1) = (1 : Int32) := by decide +kernel
theorem q90_37 : qJ 90 37 (.if_icmp .ne 10) 40 (10) 47 := by decide +kernel
theorem q90_40 : qD 90 40 (.aload_n 0) 1 41 ∧ ((0 : Fin 4) : Nat) = 0 := by decide +kernel
theorem q90_41 : qG 90 41 117 44 10 4 328 0 := by decide +kernel
theorem q90_44 : qJ 90 44 (.goto 7) 47 (7) 51 := by decide +kernel
theorem q90_47 : qD 90 47 (.aload_n 0) 1 48 ∧ ((0 : Fin 4) : Nat) = 0 := by decide +kernel
theorem q90_48 : qG 90 48 120 51 10 7 331 0 := by decide +kernel
theorem q90_51 : qD 90 51 (.istore_n 2) 1 52 ∧ ((2 : Fin 4) : Nat) = 2 ∧ 2 < mL 90 := by decide +kernel
theorem q90_52 : qD 90 52 (.iload_n 2) 1 53 ∧ ((2 : Fin 4) : Nat) = 2 := by decide +kernel
theorem q90_53 : qD 90 53 (.iconst 4) 1 54 ∧ Int32.ofInt (4) = (4 : Int32) := by decide +kernel
theorem q90_54 : qJ 90 54 (.if_icmp .lt 5) 57 (5) 59 := by decide +kernel
theorem q90_57 : qD 90 57 (.iconst (-1)) 1 58 ∧ Int32.ofInt (-1) = (-1 : Int32) := by decide +kernel
theorem q90_58 : qD 90 58 (.ireturn) 1 59 ∧ mR 90 = some .int := by decide +kernel
theorem q90_59 : qD 90 59 (.aload_n 0) 1 60 ∧ ((0 : Fin 4) : Nat) = 0 := by decide +kernel
theorem q90_60 : qG 90 60 10 63 10 0 324 2 := by decide +kernel
theorem q90_63 : qD 90 63 (.iconst 0) 1 64 ∧ Int32.ofInt (0) = (0 : Int32) := by decide +kernel
theorem q90_64 : qP 90 64 99 67 8 1 151 0 := by decide +kernel
theorem q90_67 : qD 90 67 (.iload_n 1) 1 68 ∧ ((1 : Fin 4) : Nat) = 1 := by decide +kernel
theorem q90_68 : qD 90 68 (.iconst 1) 1 69 ∧ Int32.ofInt (1) = (1 : Int32) := by decide +kernel
theorem q90_69 : qJ 90 69 (.if_icmp .ne 16) 72 (16) 85 := by decide +kernel
theorem q90_72 : qD 90 72 (.aload_n 0) 1 73 ∧ ((0 : Fin 4) : Nat) = 0 := by decide +kernel
theorem q90_73 : qD 90 73 (.dup) 1 74 := by decide +kernel
theorem q90_74 : qG 90 74 117 77 10 4 328 0 := by decide +kernel
theorem q90_77 : qD 90 77 (.iconst 1) 1 78 ∧ Int32.ofInt (1) = (1 : Int32) := by decide +kernel
theorem q90_78 : qD 90 78 (.iadd) 1 79 := by decide +kernel
theorem q90_79 : qP 90 79 117 82 10 4 328 0 := by decide +kernel
theorem q90_82 : qJ 90 82 (.goto 13) 85 (13) 95 := by decide +kernel
theorem q90_85 : qD 90 85 (.aload_n 0) 1 86 ∧ ((0 : Fin 4) : Nat) = 0 := by decide +kernel
theorem q90_86 : qD 90 86 (.dup) 1 87 := by decide +kernel
theorem q90_87 : qG 90 87 120 90 10 7 331 0 := by decide +kernel
theorem q90_90 : qD 90 90 (.iconst 1) 1 91 ∧ Int32.ofInt (1) = (1 : Int32) := by decide +kernel
theorem q90_91 : qD 90 91 (.iadd) 1 92 := by decide +kernel
theorem q90_92 : qP 90 92 120 95 10 7 331 0 := by decide +kernel
theorem q90_95 : qD 90 95 (.iload_n 2) 1 96 ∧ ((2 : Fin 4) : Nat) = 2 := by decide +kernel
theorem q90_96 : qD 90 96 (.ireturn) 1 97 ∧ mR 90 = some .int := by decide +kernel
theorem q91_0 : qD 91 0 (.iload_n 0) 1 1 ∧ ((0 : Fin 4) : Nat) = 0 := by decide +kernel
theorem q91_1 : qJ 91 1 (.ifCond .lt 12) 4 (12) 13 := by decide +kernel
theorem q91_4 : qD 91 4 (.iload_n 0) 1 5 ∧ ((0 : Fin 4) : Nat) = 0 := by decide +kernel
theorem q91_5 : qD 91 5 (.iconst 2) 1 6 ∧ Int32.ofInt (2) = (2 : Int32) := by decide +kernel
theorem q91_6 : qJ 91 6 (.if_icmp .gt 7) 9 (7) 13 := by decide +kernel
theorem q91_9 : qD 91 9 (.iconst 1) 1 10 ∧ Int32.ofInt (1) = (1 : Int32) := by decide +kernel
theorem q91_10 : qJ 91 10 (.goto 4) 13 (4) 14 := by decide +kernel
theorem q91_13 : qD 91 13 (.iconst 0) 1 14 ∧ Int32.ofInt (0) = (0 : Int32) := by decide +kernel
theorem q91_14 : qD 91 14 (.ireturn) 1 15 ∧ mR 91 = some .boolean := by decide +kernel
theorem q92_0 : qD 92 0 (.aload_n 0) 1 1 ∧ ((0 : Fin 4) : Nat) = 0 := by decide +kernel
theorem q92_1 : qG 92 1 10 4 10 0 324 2 := by decide +kernel
theorem q92_4 : qD 92 4 (.invokevirtual 123) 3 7 ∧ qI 92 123 67 411 := by decide +kernel
theorem q92_7 : qD 92 7 (.iload_n 1) 1 8 ∧ ((1 : Fin 4) : Nat) = 1 := by decide +kernel
theorem q92_8 : qJ 92 8 (.ifCond .ne 17) 11 (17) 25 := by decide +kernel
theorem q92_11 : qD 92 11 (.aload_n 0) 1 12 ∧ ((0 : Fin 4) : Nat) = 0 := by decide +kernel
theorem q92_12 : qG 92 12 23 15 10 2 326 2 := by decide +kernel
theorem q92_15 : qD 92 15 (.aload_n 0) 1 16 ∧ ((0 : Fin 4) : Nat) = 0 := by decide +kernel
theorem q92_16 : qG 92 16 10 19 10 0 324 2 := by decide +kernel
theorem q92_19 : qD 92 19 (.invokevirtual 126) 3 22 ∧ qI 92 126 13 415 := by decide +kernel
theorem q92_22 : qJ 92 22 (.goto 43) 25 (43) 65 := by decide +kernel
theorem q92_25 : qD 92 25 (.iload_n 1) 1 26 ∧ ((1 : Fin 4) : Nat) = 1 := by decide +kernel
theorem q92_26 : qD 92 26 (.iconst 1) 1 27 ∧ Int32.ofInt (1) = (1 : Int32) := by decide +kernel
theorem q92_27 : qJ 92 27 (.if_icmp .ne 22) 30 (22) 49 := by decide +kernel
theorem q92_30 : qD 92 30 (.aload_n 0) 1 31 ∧ ((0 : Fin 4) : Nat) = 0 := by decide +kernel
theorem q92_31 : qG 92 31 28 34 10 3 327 2 := by decide +kernel
theorem q92_34 : qD 92 34 (.aload_n 0) 1 35 ∧ ((0 : Fin 4) : Nat) = 0 := by decide +kernel
theorem q92_35 : qG 92 35 117 38 10 4 328 0 := by decide +kernel
theorem q92_38 : qD 92 38 (.aaload) 1 39 := by decide +kernel
theorem q92_39 : qD 92 39 (.aload_n 0) 1 40 ∧ ((0 : Fin 4) : Nat) = 0 := by decide +kernel
theorem q92_40 : qG 92 40 10 43 10 0 324 2 := by decide +kernel
theorem q92_43 : qD 92 43 (.invokevirtual 130) 3 46 ∧ qI 92 130 34 583 := by decide +kernel
theorem q92_46 : qJ 92 46 (.goto 19) 49 (19) 65 := by decide +kernel
theorem q92_49 : qD 92 49 (.aload_n 0) 1 50 ∧ ((0 : Fin 4) : Nat) = 0 := by decide +kernel
theorem q92_50 : qG 92 50 34 53 10 6 330 2 := by decide +kernel
theorem q92_53 : qD 92 53 (.aload_n 0) 1 54 ∧ ((0 : Fin 4) : Nat) = 0 := by decide +kernel
theorem q92_54 : qG 92 54 120 57 10 7 331 0 := by decide +kernel
theorem q92_57 : qD 92 57 (.aaload) 1 58 := by decide +kernel
theorem q92_58 : qD 92 58 (.aload_n 0) 1 59 ∧ ((0 : Fin 4) : Nat) = 0 := by decide +kernel
theorem q92_59 : qG 92 59 10 62 10 0 324 2 := by decide +kernel
theorem q92_62 : qD 92 62 (.invokevirtual 131) 3 65 ∧ qI 92 131 50 640 := by decide +kernel
theorem q92_65 : qD 92 65 (.aload_n 0) 1 66 ∧ ((0 : Fin 4) : Nat) = 0 := by decide +kernel
theorem q92_66 : qG 92 66 10 69 10 0 324 2 := by decide +kernel
theorem q92_69 : qG 92 69 132 72 8 3 155 0 := by decide +kernel
theorem q92_72 : qD 92 72 (.ireturn) 1 73 ∧ mR 92 = some .int := by decide +kernel
theorem q93_0 : qD 93 0 (.aload_n 0) 1 1 ∧ ((0 : Fin 4) : Nat) = 0 := by decide +kernel
theorem q93_1 : qG 93 1 19 4 10 1 325 2 := by decide +kernel
theorem q93_4 : qD 93 4 (.astore_n 1) 1 5 ∧ ((1 : Fin 4) : Nat) = 1 ∧ 1 < mL 93 := by decide +kernel
theorem q93_5 : qD 93 5 (.aload_n 0) 1 6 ∧ ((0 : Fin 4) : Nat) = 0 := by decide +kernel
theorem q93_6 : qD 93 6 (.aload_n 0) 1 7 ∧ ((0 : Fin 4) : Nat) = 0 := by decide +kernel
theorem q93_7 : qG 93 7 23 10 10 2 326 2 := by decide +kernel
theorem q93_10 : qP 93 10 19 13 10 1 325 2 := by decide +kernel
theorem q93_13 : qD 93 13 (.aload_n 0) 1 14 ∧ ((0 : Fin 4) : Nat) = 0 := by decide +kernel
theorem q93_14 : qD 93 14 (.aload_n 1) 1 15 ∧ ((1 : Fin 4) : Nat) = 1 := by decide +kernel
theorem q93_15 : qP 93 15 23 18 10 2 326 2 := by decide +kernel
theorem q93_18 : qD 93 18 (.aload_n 0) 1 19 ∧ ((0 : Fin 4) : Nat) = 0 := by decide +kernel
theorem q93_19 : qG 93 19 47 22 10 9 333 2 := by decide +kernel
theorem q93_22 : qD 93 22 (.aload_n 0) 1 23 ∧ ((0 : Fin 4) : Nat) = 0 := by decide +kernel
theorem q93_23 : qG 93 23 19 26 10 1 325 2 := by decide +kernel
theorem q93_26 : qD 93 26 (.invokevirtual 135) 3 29 ∧ qI 93 135 54 667 := by decide +kernel
theorem q93_29 : qD 93 29 (.aload_n 0) 1 30 ∧ ((0 : Fin 4) : Nat) = 0 := by decide +kernel
theorem q93_30 : qG 93 30 70 33 10 15 339 2 := by decide +kernel
theorem q93_33 : qD 93 33 (.invokevirtual 139) 3 36 ∧ qI 93 139 1 678 := by decide +kernel
theorem q93_36 : qD 93 36 (.aload_n 0) 1 37 ∧ ((0 : Fin 4) : Nat) = 0 := by decide +kernel
theorem q93_37 : qG 93 37 84 40 10 17 341 2 := by decide +kernel
theorem q93_40 : qD 93 40 (.invokevirtual 142) 3 43 ∧ qI 93 142 81 682 := by decide +kernel
theorem q93_43 : qD 93 43 (.aload_n 0) 1 44 ∧ ((0 : Fin 4) : Nat) = 0 := by decide +kernel
theorem q93_44 : qG 93 44 91 47 10 18 342 2 := by decide +kernel
theorem q93_47 : qD 93 47 (.invokevirtual 143) 3 50 ∧ qI 93 143 5 687 := by decide +kernel
theorem q93_50 : qD 93 50 (.aload_n 0) 1 51 ∧ ((0 : Fin 4) : Nat) = 0 := by decide +kernel
theorem q93_51 : qD 93 51 (.iconst 0) 1 52 ∧ Int32.ofInt (0) = (0 : Int32) := by decide +kernel
theorem q93_52 : qP 93 52 144 55 10 12 336 0 := by decide +kernel
theorem q93_55 : qD 93 55 (.aload_n 0) 1 56 ∧ ((0 : Fin 4) : Nat) = 0 := by decide +kernel
theorem q93_56 : qG 93 56 19 59 10 1 325 2 := by decide +kernel
theorem q93_59 : qG 93 59 148 62 3 3 179 0 := by decide +kernel
theorem q93_62 : qD 93 62 (.ireturn) 1 63 ∧ mR 93 = some .int := by decide +kernel
theorem q94_0 : qD 94 0 (.aload_n 0) 1 1 ∧ ((0 : Fin 4) : Nat) = 0 := by decide +kernel
theorem q94_1 : qD 94 1 (.invokevirtual 151) 3 4 ∧ qI 94 151 102 695 := by decide +kernel
theorem q94_4 : qJ 94 4 (.ifCond .eq 24) 7 (24) 28 := by decide +kernel
theorem q94_7 : qD 94 7 (.iload_n 1) 1 8 ∧ ((1 : Fin 4) : Nat) = 1 := by decide +kernel
theorem q94_8 : qJ 94 8 (.ifCond .lt 20) 11 (20) 28 := by decide +kernel
theorem q94_11 : qD 94 11 (.iload_n 1) 1 12 ∧ ((1 : Fin 4) : Nat) = 1 := by decide +kernel
theorem q94_12 : qD 94 12 (.iconst 4) 1 13 ∧ Int32.ofInt (4) = (4 : Int32) := by decide +kernel
theorem q94_13 : qJ 94 13 (.if_icmp .ge 15) 16 (15) 28 := by decide +kernel
theorem q94_16 : qD 94 16 (.aload_n 0) 1 17 ∧ ((0 : Fin 4) : Nat) = 0 := by decide +kernel
theorem q94_17 : qG 94 17 19 20 10 1 325 2 := by decide +kernel
theorem q94_20 : qG 94 20 155 23 3 0 173 2 := by decide +kernel
theorem q94_23 : qD 94 23 (.iload_n 1) 1 24 ∧ ((1 : Fin 4) : Nat) = 1 := by decide +kernel
theorem q94_24 : qD 94 24 (.iaload) 1 25 := by decide +kernel
theorem q94_25 : qJ 94 25 (.goto 4) 28 (4) 29 := by decide +kernel
theorem q94_28 : qD 94 28 (.iconst (-1)) 1 29 ∧ Int32.ofInt (-1) = (-1 : Int32) := by decide +kernel
theorem q94_29 : qD 94 29 (.ireturn) 1 30 ∧ mR 94 = some .int := by decide +kernel
theorem q95_0 : qD 95 0 (.aload_n 0) 1 1 ∧ ((0 : Fin 4) : Nat) = 0 := by decide +kernel
theorem q95_1 : qD 95 1 (.iload_n 1) 1 2 ∧ ((1 : Fin 4) : Nat) = 1 := by decide +kernel
theorem q95_2 : qD 95 2 (.invokevirtual 159) 3 5 ∧ qI 95 159 103 778 := by decide +kernel
theorem q95_5 : qJ 95 5 (.ifCond .ne 13) 8 (13) 18 := by decide +kernel
theorem q95_11 : qD 95 11 (.dup) 1 12 := by decide +kernel
theorem q95_12 : qD 95 12 (.ldc 164) 2 14 ∧ cR[5]? = some ((mN 95).cls, 164, "no such prisoner", 6) := by decide +kernel
theorem q95_18 : qD 95 18 (.iload_n 2) 1 19 ∧ ((2 : Fin 4) : Nat) = 2 := by decide +kernel
theorem q95_19 : qD 95 19 (.tableswitch 123 0 6 #[41, 57, 66, 75, 84, 97, 110]) 41 60 ∧ (19 : Int) + (123) = (142 : Int) ∧ ((6 : Int) - (0) + 1).toNat = (#[41, 57, 66, 75, 84, 97, 110] : Array Int).size := by decide +kernel
theorem q95_60 : qD 95 60 (.aload_n 0) 1 61 ∧ ((0 : Fin 4) : Nat) = 0 := by decide +kernel
theorem q95_61 : qG 95 61 47 64 10 9 333 2 := by decide +kernel
theorem q95_64 : qD 95 64 (.iload_n 1) 1 65 ∧ ((1 : Fin 4) : Nat) = 1 := by decide +kernel
theorem q95_65 : qD 95 65 (.aload_n 0) 1 66 ∧ ((0 : Fin 4) : Nat) = 0 := by decide +kernel
theorem q95_66 : qG 95 66 19 69 10 1 325 2 := by decide +kernel
theorem q95_69 : qG 95 69 148 72 3 3 179 0 := by decide +kernel
theorem q95_72 : qD 95 72 (.invokevirtual 169) 3 75 ∧ qI 95 169 57 1255 := by decide +kernel
theorem q95_75 : qD 95 75 (.ireturn) 1 76 ∧ mR 95 = some .int := by decide +kernel
theorem q95_76 : qD 95 76 (.aload_n 0) 1 77 ∧ ((0 : Fin 4) : Nat) = 0 := by decide +kernel
theorem q95_77 : qG 95 77 19 80 10 1 325 2 := by decide +kernel
theorem q95_80 : qD 95 80 (.iload_n 1) 1 81 ∧ ((1 : Fin 4) : Nat) = 1 := by decide +kernel
theorem q95_81 : qD 95 81 (.invokevirtual 173) 3 84 ∧ qI 95 173 21 944 := by decide +kernel
theorem q95_84 : qD 95 84 (.ireturn) 1 85 ∧ mR 95 = some .int := by decide +kernel
theorem q95_85 : qD 95 85 (.aload_n 0) 1 86 ∧ ((0 : Fin 4) : Nat) = 0 := by decide +kernel
theorem q95_86 : qG 95 86 19 89 10 1 325 2 := by decide +kernel
theorem q95_89 : qD 95 89 (.iload_n 1) 1 90 ∧ ((1 : Fin 4) : Nat) = 1 := by decide +kernel
theorem q95_90 : qD 95 90 (.invokevirtual 176) 3 93 ∧ qI 95 176 22 1173 := by decide +kernel
theorem q95_93 : qD 95 93 (.ireturn) 1 94 ∧ mR 95 = some .int := by decide +kernel
theorem q95_94 : qD 95 94 (.aload_n 0) 1 95 ∧ ((0 : Fin 4) : Nat) = 0 := by decide +kernel
theorem q95_95 : qG 95 95 19 98 10 1 325 2 := by decide +kernel
theorem q95_98 : qD 95 98 (.iload_n 1) 1 99 ∧ ((1 : Fin 4) : Nat) = 1 := by decide +kernel
theorem q95_99 : qD 95 99 (.invokevirtual 179) 3 102 ∧ qI 95 179 23 1027 := by decide +kernel
theorem q95_102 : qD 95 102 (.ireturn) 1 103 ∧ mR 95 = some .int := by decide +kernel
theorem q95_103 : qD 95 103 (.aload_n 0) 1 104 ∧ ((0 : Fin 4) : Nat) = 0 := by decide +kernel
theorem q95_104 : qG 95 104 47 107 10 9 333 2 := by decide +kernel
theorem q95_107 : qG 95 107 182 110 7 0 240 2 := by decide +kernel
theorem q95_110 : qD 95 110 (.bipush 7) 2 112 ∧ (Int8.ofInt (7)).toInt32 = (7 : Int32) := by decide +kernel
theorem q95_112 : qD 95 112 (.iload_n 1) 1 113 ∧ ((1 : Fin 4) : Nat) = 1 := by decide +kernel
theorem q95_113 : qD 95 113 (.iadd) 1 114 := by decide +kernel
theorem q95_114 : qD 95 114 (.iaload) 1 115 := by decide +kernel
theorem q95_115 : qD 95 115 (.ireturn) 1 116 ∧ mR 95 = some .int := by decide +kernel
theorem q95_116 : qD 95 116 (.aload_n 0) 1 117 ∧ ((0 : Fin 4) : Nat) = 0 := by decide +kernel
theorem q95_117 : qG 95 117 47 120 10 9 333 2 := by decide +kernel
theorem q95_120 : qG 95 120 182 123 7 0 240 2 := by decide +kernel
theorem q95_123 : qD 95 123 (.bipush 21) 2 125 ∧ (Int8.ofInt (21)).toInt32 = (21 : Int32) := by decide +kernel
theorem q95_125 : qD 95 125 (.iload_n 1) 1 126 ∧ ((1 : Fin 4) : Nat) = 1 := by decide +kernel
theorem q95_126 : qD 95 126 (.iadd) 1 127 := by decide +kernel
theorem q95_127 : qD 95 127 (.iaload) 1 128 := by decide +kernel
theorem q95_128 : qD 95 128 (.ireturn) 1 129 ∧ mR 95 = some .int := by decide +kernel
theorem q95_129 : qD 95 129 (.aload_n 0) 1 130 ∧ ((0 : Fin 4) : Nat) = 0 := by decide +kernel
theorem q95_130 : qG 95 130 47 133 10 9 333 2 := by decide +kernel
theorem q95_133 : qG 95 133 182 136 7 0 240 2 := by decide +kernel
theorem q95_136 : qD 95 136 (.bipush 14) 2 138 ∧ (Int8.ofInt (14)).toInt32 = (14 : Int32) := by decide +kernel
theorem q95_138 : qD 95 138 (.iload_n 1) 1 139 ∧ ((1 : Fin 4) : Nat) = 1 := by decide +kernel
theorem q95_139 : qD 95 139 (.iadd) 1 140 := by decide +kernel
theorem q95_140 : qD 95 140 (.iaload) 1 141 := by decide +kernel
theorem q95_141 : qD 95 141 (.ireturn) 1 142 ∧ mR 95 = some .int := by decide +kernel
theorem q95_145 : qD 95 145 (.dup) 1 146 := by decide +kernel
theorem q95_146 : qD 95 146 (.ldc 185) 2 148 ∧ cR[6]? = some ((mN 95).cls, 185, "no such thing of a prisoner", 7) := by decide +kernel
theorem q96_0 : qD 96 0 (.aload_n 0) 1 1 ∧ ((0 : Fin 4) : Nat) = 0 := by decide +kernel
theorem q96_1 : qD 96 1 (.iload_n 1) 1 2 ∧ ((1 : Fin 4) : Nat) = 1 := by decide +kernel
theorem q96_2 : qD 96 2 (.invokevirtual 187) 3 5 ∧ qI 96 187 104 703 := by decide +kernel
theorem q96_5 : qJ 96 5 (.ifCond .eq 12) 8 (12) 17 := by decide +kernel
theorem q96_8 : qD 96 8 (.iload_n 2) 1 9 ∧ ((2 : Fin 4) : Nat) = 2 := by decide +kernel
theorem q96_9 : qJ 96 9 (.ifCond .lt 8) 12 (8) 17 := by decide +kernel
theorem q96_12 : qD 96 12 (.iload_n 2) 1 13 ∧ ((2 : Fin 4) : Nat) = 2 := by decide +kernel
theorem q96_13 : qD 96 13 (.iconst 1) 1 14 ∧ Int32.ofInt (1) = (1 : Int32) := by decide +kernel
theorem q96_14 : qJ 96 14 (.if_icmp .le 5) 17 (5) 19 := by decide +kernel
theorem q96_17 : qD 96 17 (.iconst (-1)) 1 18 ∧ Int32.ofInt (-1) = (-1 : Int32) := by decide +kernel
theorem q96_18 : qD 96 18 (.ireturn) 1 19 ∧ mR 96 = some .int := by decide +kernel
theorem q96_19 : qD 96 19 (.iload_n 2) 1 20 ∧ ((2 : Fin 4) : Nat) = 2 := by decide +kernel
theorem q96_20 : qJ 96 20 (.ifCond .ne 14) 23 (14) 34 := by decide +kernel
theorem q96_23 : qD 96 23 (.aload_n 0) 1 24 ∧ ((0 : Fin 4) : Nat) = 0 := by decide +kernel
theorem q96_24 : qG 96 24 19 27 10 1 325 2 := by decide +kernel
theorem q96_27 : qD 96 27 (.iload_n 1) 1 28 ∧ ((1 : Fin 4) : Nat) = 1 := by decide +kernel
theorem q96_28 : qD 96 28 (.invokevirtual 190) 3 31 ∧ qI 96 190 20 707 := by decide +kernel
theorem q96_31 : qJ 96 31 (.goto 14) 34 (14) 45 := by decide +kernel
theorem q96_34 : qD 96 34 (.aload_n 0) 1 35 ∧ ((0 : Fin 4) : Nat) = 0 := by decide +kernel
theorem q96_35 : qG 96 35 47 38 10 9 333 2 := by decide +kernel
theorem q96_38 : qG 96 38 182 41 7 0 240 2 := by decide +kernel
theorem q96_41 : qD 96 41 (.iconst 0) 1 42 ∧ Int32.ofInt (0) = (0 : Int32) := by decide +kernel
theorem q96_42 : qD 96 42 (.iload_n 1) 1 43 ∧ ((1 : Fin 4) : Nat) = 1 := by decide +kernel
theorem q96_43 : qD 96 43 (.iadd) 1 44 := by decide +kernel
theorem q96_44 : qD 96 44 (.iaload) 1 45 := by decide +kernel
theorem q96_45 : qD 96 45 (.ireturn) 1 46 ∧ mR 96 = some .int := by decide +kernel
theorem q97_0 : qD 97 0 (.aload_n 0) 1 1 ∧ ((0 : Fin 4) : Nat) = 0 := by decide +kernel
theorem q97_1 : qD 97 1 (.iload_n 1) 1 2 ∧ ((1 : Fin 4) : Nat) = 1 := by decide +kernel
theorem q97_2 : qD 97 2 (.invokevirtual 193) 3 5 ∧ qI 97 193 105 715 := by decide +kernel
theorem q97_5 : qJ 97 5 (.ifCond .ne 5) 8 (5) 10 := by decide +kernel
theorem q97_8 : qD 97 8 (.iconst (-1)) 1 9 ∧ Int32.ofInt (-1) = (-1 : Int32) := by decide +kernel
theorem q97_9 : qD 97 9 (.ireturn) 1 10 ∧ mR 97 = some .int := by decide +kernel
theorem q97_10 : qD 97 10 (.iload_n 2) 1 11 ∧ ((2 : Fin 4) : Nat) = 2 := by decide +kernel
theorem q97_11 : qD 97 11 (.tableswitch 60 0 2 #[25, 34, 43]) 25 36 ∧ (11 : Int) + (60) = (71 : Int) ∧ ((2 : Int) - (0) + 1).toNat = (#[25, 34, 43] : Array Int).size := by decide +kernel
theorem q97_36 : qD 97 36 (.aload_n 0) 1 37 ∧ ((0 : Fin 4) : Nat) = 0 := by decide +kernel
theorem q97_37 : qG 97 37 19 40 10 1 325 2 := by decide +kernel
theorem q97_40 : qD 97 40 (.iload_n 1) 1 41 ∧ ((1 : Fin 4) : Nat) = 1 := by decide +kernel
theorem q97_41 : qD 97 41 (.invokevirtual 196) 3 44 ∧ qI 97 196 25 719 := by decide +kernel
theorem q97_44 : qD 97 44 (.ireturn) 1 45 ∧ mR 97 = some .int := by decide +kernel
theorem q97_45 : qD 97 45 (.aload_n 0) 1 46 ∧ ((0 : Fin 4) : Nat) = 0 := by decide +kernel
theorem q97_46 : qG 97 46 19 49 10 1 325 2 := by decide +kernel
theorem q97_49 : qD 97 49 (.iload_n 1) 1 50 ∧ ((1 : Fin 4) : Nat) = 1 := by decide +kernel
theorem q97_50 : qD 97 50 (.invokevirtual 199) 3 53 ∧ qI 97 199 26 723 := by decide +kernel
theorem q97_53 : qD 97 53 (.ireturn) 1 54 ∧ mR 97 = some .int := by decide +kernel
theorem q97_54 : qD 97 54 (.aload_n 0) 1 55 ∧ ((0 : Fin 4) : Nat) = 0 := by decide +kernel
theorem q97_55 : qG 97 55 47 58 10 9 333 2 := by decide +kernel
theorem q97_58 : qD 97 58 (.iload_n 1) 1 59 ∧ ((1 : Fin 4) : Nat) = 1 := by decide +kernel
theorem q97_59 : qD 97 59 (.invokevirtual 202) 3 62 ∧ qI 97 202 56 727 := by decide +kernel
theorem q97_62 : qJ 97 62 (.ifCond .eq 7) 65 (7) 69 := by decide +kernel
theorem q97_65 : qD 97 65 (.iconst 1) 1 66 ∧ Int32.ofInt (1) = (1 : Int32) := by decide +kernel
theorem q97_66 : qJ 97 66 (.goto 4) 69 (4) 70 := by decide +kernel
theorem q97_69 : qD 97 69 (.iconst 0) 1 70 ∧ Int32.ofInt (0) = (0 : Int32) := by decide +kernel
theorem q97_70 : qD 97 70 (.ireturn) 1 71 ∧ mR 97 = some .int := by decide +kernel
theorem q97_71 : qD 97 71 (.iconst (-1)) 1 72 ∧ Int32.ofInt (-1) = (-1 : Int32) := by decide +kernel
theorem q97_72 : qD 97 72 (.ireturn) 1 73 ∧ mR 97 = some .int := by decide +kernel
theorem q98_0 : qD 98 0 (.iload_n 1) 1 1 ∧ ((1 : Fin 4) : Nat) = 1 := by decide +kernel
theorem q98_1 : qD 98 1 (.iconst (-1)) 1 2 ∧ Int32.ofInt (-1) = (-1 : Int32) := by decide +kernel
theorem q98_2 : qJ 98 2 (.if_icmp .lt 11) 5 (11) 13 := by decide +kernel
theorem q98_5 : qD 98 5 (.iload_n 1) 1 6 ∧ ((1 : Fin 4) : Nat) = 1 := by decide +kernel
theorem q98_6 : qD 98 6 (.aload_n 0) 1 7 ∧ ((0 : Fin 4) : Nat) = 0 := by decide +kernel
theorem q98_7 : qG 98 7 117 10 10 4 328 0 := by decide +kernel
theorem q98_10 : qJ 98 10 (.if_icmp .lt 5) 13 (5) 15 := by decide +kernel
theorem q98_13 : qD 98 13 (.iconst 0) 1 14 ∧ Int32.ofInt (0) = (0 : Int32) := by decide +kernel
theorem q98_14 : qD 98 14 (.ireturn) 1 15 ∧ mR 98 = some .boolean := by decide +kernel
theorem q98_15 : qD 98 15 (.aload_n 0) 1 16 ∧ ((0 : Fin 4) : Nat) = 0 := by decide +kernel
theorem q98_16 : qD 98 16 (.iload_n 1) 1 17 ∧ ((1 : Fin 4) : Nat) = 1 := by decide +kernel
theorem q98_17 : qP 98 17 40 20 10 5 329 0 := by decide +kernel
theorem q98_20 : qD 98 20 (.iconst 1) 1 21 ∧ Int32.ofInt (1) = (1 : Int32) := by decide +kernel
theorem q98_21 : qD 98 21 (.ireturn) 1 22 ∧ mR 98 = some .boolean := by decide +kernel
theorem q99_0 : qD 99 0 (.iload_n 1) 1 1 ∧ ((1 : Fin 4) : Nat) = 1 := by decide +kernel
theorem q99_1 : qJ 99 1 (.ifCond .lt 17) 4 (17) 18 := by decide +kernel
theorem q99_4 : qD 99 4 (.iload_n 1) 1 5 ∧ ((1 : Fin 4) : Nat) = 1 := by decide +kernel
theorem q99_5 : qD 99 5 (.bipush 9) 2 7 ∧ (Int8.ofInt (9)).toInt32 = (9 : Int32) := by decide +kernel
theorem q99_7 : qJ 99 7 (.if_icmp .gt 11) 10 (11) 18 := by decide +kernel
theorem q99_10 : qD 99 10 (.iload_n 1) 1 11 ∧ ((1 : Fin 4) : Nat) = 1 := by decide +kernel
theorem q99_11 : qD 99 11 (.aload_n 0) 1 12 ∧ ((0 : Fin 4) : Nat) = 0 := by decide +kernel
theorem q99_12 : qG 99 12 205 15 10 8 332 0 := by decide +kernel
theorem q99_15 : qJ 99 15 (.if_icmp .ne 5) 18 (5) 20 := by decide +kernel
theorem q99_18 : qD 99 18 (.iconst 0) 1 19 ∧ Int32.ofInt (0) = (0 : Int32) := by decide +kernel
theorem q99_19 : qD 99 19 (.ireturn) 1 20 ∧ mR 99 = some .boolean := by decide +kernel
theorem q99_20 : qD 99 20 (.aload_n 0) 1 21 ∧ ((0 : Fin 4) : Nat) = 0 := by decide +kernel
theorem q99_21 : qD 99 21 (.iload_n 1) 1 22 ∧ ((1 : Fin 4) : Nat) = 1 := by decide +kernel
theorem q99_22 : qP 99 22 205 25 10 8 332 0 := by decide +kernel
theorem q99_25 : qD 99 25 (.iconst 1) 1 26 ∧ Int32.ofInt (1) = (1 : Int32) := by decide +kernel
theorem q99_26 : qD 99 26 (.ireturn) 1 27 ∧ mR 99 = some .boolean := by decide +kernel
theorem q100_0 : qD 100 0 (.iload_n 1) 1 1 ∧ ((1 : Fin 4) : Nat) = 1 := by decide +kernel
theorem q100_1 : qJ 100 1 (.ifCond .lt 20) 4 (20) 21 := by decide +kernel
theorem q100_4 : qD 100 4 (.iload_n 1) 1 5 ∧ ((1 : Fin 4) : Nat) = 1 := by decide +kernel
theorem q100_5 : qD 100 5 (.aload_n 0) 1 6 ∧ ((0 : Fin 4) : Nat) = 0 := by decide +kernel
theorem q100_6 : qD 100 6 (.invokevirtual 208) 3 9 ∧ qI 100 208 107 743 := by decide +kernel
theorem q100_9 : qJ 100 9 (.if_icmp .ge 12) 12 (12) 21 := by decide +kernel
theorem q100_12 : qD 100 12 (.iload_n 2) 1 13 ∧ ((2 : Fin 4) : Nat) = 2 := by decide +kernel
theorem q100_13 : qJ 100 13 (.ifCond .lt 8) 16 (8) 21 := by decide +kernel
theorem q100_16 : qD 100 16 (.iload_n 2) 1 17 ∧ ((2 : Fin 4) : Nat) = 2 := by decide +kernel
theorem q100_17 : qD 100 17 (.iconst 3) 1 18 ∧ Int32.ofInt (3) = (3 : Int32) := by decide +kernel
theorem q100_18 : qJ 100 18 (.if_icmp .lt 5) 21 (5) 23 := by decide +kernel
theorem q100_21 : qD 100 21 (.iconst (-1)) 1 22 ∧ Int32.ofInt (-1) = (-1 : Int32) := by decide +kernel
theorem q100_22 : qD 100 22 (.ireturn) 1 23 ∧ mR 100 = some .int := by decide +kernel
theorem q100_23 : qD 100 23 (.aload_n 0) 1 24 ∧ ((0 : Fin 4) : Nat) = 0 := by decide +kernel
theorem q100_24 : qG 100 24 60 27 10 13 337 2 := by decide +kernel
theorem q100_27 : qD 100 27 (.aload_n 0) 1 28 ∧ ((0 : Fin 4) : Nat) = 0 := by decide +kernel
theorem q100_28 : qG 100 28 47 31 10 9 333 2 := by decide +kernel
theorem q100_31 : qG 100 31 182 34 7 0 240 2 := by decide +kernel
theorem q100_34 : qD 100 34 (.bipush 32) 2 36 ∧ (Int8.ofInt (32)).toInt32 = (32 : Int32) := by decide +kernel
theorem q100_36 : qD 100 36 (.iaload) 1 37 := by decide +kernel
theorem q100_37 : qD 100 37 (.iconst 1) 1 38 ∧ Int32.ofInt (1) = (1 : Int32) := by decide +kernel
theorem q100_38 : qD 100 38 (.isub) 1 39 := by decide +kernel
theorem q100_39 : qD 100 39 (.iload_n 1) 1 40 ∧ ((1 : Fin 4) : Nat) = 1 := by decide +kernel
theorem q100_40 : qD 100 40 (.isub) 1 41 := by decide +kernel
theorem q100_41 : qD 100 41 (.iload_n 2) 1 42 ∧ ((2 : Fin 4) : Nat) = 2 := by decide +kernel
theorem q100_42 : qD 100 42 (.invokevirtual 211) 3 45 ∧ qI 100 211 10 748 := by decide +kernel
theorem q100_45 : qD 100 45 (.ireturn) 1 46 ∧ mR 100 = some .int := by decide +kernel
theorem q101_0 : qD 101 0 (.iload_n 1) 1 1 ∧ ((1 : Fin 4) : Nat) = 1 := by decide +kernel
theorem q101_1 : qD 101 1 (.tableswitch 219 0 15 #[79, 87, 95, 100, 105, 113, 118, 129, 145, 156, 167, 178, 193, 198, 206, 211]) 79 80 ∧ (1 : Int) + (219) = (220 : Int) ∧ ((15 : Int) - (0) + 1).toNat = (#[79, 87, 95, 100, 105, 113, 118, 129, 145, 156, 167, 178, 193, 198, 206, 211] : Array Int).size := by decide +kernel
theorem q101_80 : qD 101 80 (.aload_n 0) 1 81 ∧ ((0 : Fin 4) : Nat) = 0 := by decide +kernel
theorem q101_81 : qG 101 81 19 84 10 1 325 2 := by decide +kernel
theorem q101_84 : qG 101 84 148 87 3 3 179 0 := by decide +kernel
theorem q101_87 : qD 101 87 (.ireturn) 1 88 ∧ mR 101 = some .int := by decide +kernel
theorem q101_88 : qD 101 88 (.aload_n 0) 1 89 ∧ ((0 : Fin 4) : Nat) = 0 := by decide +kernel
theorem q101_89 : qG 101 89 19 92 10 1 325 2 := by decide +kernel
theorem q101_92 : qG 101 92 214 95 3 4 183 0 := by decide +kernel
theorem q101_95 : qD 101 95 (.ireturn) 1 96 ∧ mR 101 = some .int := by decide +kernel
theorem q101_96 : qD 101 96 (.aload_n 0) 1 97 ∧ ((0 : Fin 4) : Nat) = 0 := by decide +kernel
theorem q101_97 : qG 101 97 117 100 10 4 328 0 := by decide +kernel
theorem q101_100 : qD 101 100 (.ireturn) 1 101 ∧ mR 101 = some .int := by decide +kernel
theorem q101_101 : qD 101 101 (.aload_n 0) 1 102 ∧ ((0 : Fin 4) : Nat) = 0 := by decide +kernel
theorem q101_102 : qG 101 102 120 105 10 7 331 0 := by decide +kernel
theorem q101_105 : qD 101 105 (.ireturn) 1 106 ∧ mR 101 = some .int := by decide +kernel
theorem q101_106 : qD 101 106 (.aload_n 0) 1 107 ∧ ((0 : Fin 4) : Nat) = 0 := by decide +kernel
theorem q101_107 : qG 101 107 10 110 10 0 324 2 := by decide +kernel
theorem q101_110 : qG 101 110 99 113 8 1 151 0 := by decide +kernel
theorem q101_113 : qD 101 113 (.ireturn) 1 114 ∧ mR 101 = some .int := by decide +kernel
theorem q101_114 : qD 101 114 (.aload_n 0) 1 115 ∧ ((0 : Fin 4) : Nat) = 0 := by decide +kernel
theorem q101_115 : qG 101 115 40 118 10 5 329 0 := by decide +kernel
theorem q101_118 : qD 101 118 (.ireturn) 1 119 ∧ mR 101 = some .int := by decide +kernel
theorem q101_119 : qD 101 119 (.aload_n 0) 1 120 ∧ ((0 : Fin 4) : Nat) = 0 := by decide +kernel
theorem q101_120 : qG 101 120 47 123 10 9 333 2 := by decide +kernel
theorem q101_123 : qG 101 123 182 126 7 0 240 2 := by decide +kernel
theorem q101_126 : qD 101 126 (.bipush 32) 2 128 ∧ (Int8.ofInt (32)).toInt32 = (32 : Int32) := by decide +kernel
theorem q101_128 : qD 101 128 (.iaload) 1 129 := by decide +kernel
theorem q101_129 : qD 101 129 (.ireturn) 1 130 ∧ mR 101 = some .int := by decide +kernel
theorem q101_130 : qD 101 130 (.aload_n 0) 1 131 ∧ ((0 : Fin 4) : Nat) = 0 := by decide +kernel
theorem q101_131 : qD 101 131 (.invokevirtual 151) 3 134 ∧ qI 101 151 102 695 := by decide +kernel
theorem q101_134 : qJ 101 134 (.ifCond .eq 10) 137 (10) 144 := by decide +kernel
theorem q101_137 : qD 101 137 (.aload_n 0) 1 138 ∧ ((0 : Fin 4) : Nat) = 0 := by decide +kernel
theorem q101_138 : qD 101 138 (.invokevirtual 217) 3 141 ∧ qI 101 217 106 756 := by decide +kernel
theorem q101_141 : qJ 101 141 (.goto 4) 144 (4) 145 := by decide +kernel
theorem q101_144 : qD 101 144 (.iconst (-1)) 1 145 ∧ Int32.ofInt (-1) = (-1 : Int32) := by decide +kernel
theorem q101_145 : qD 101 145 (.ireturn) 1 146 ∧ mR 101 = some .int := by decide +kernel
theorem q101_146 : qD 101 146 (.aload_n 0) 1 147 ∧ ((0 : Fin 4) : Nat) = 0 := by decide +kernel
theorem q101_147 : qG 101 147 47 150 10 9 333 2 := by decide +kernel
theorem q101_150 : qG 101 150 182 153 7 0 240 2 := by decide +kernel
theorem q101_153 : qD 101 153 (.bipush 28) 2 155 ∧ (Int8.ofInt (28)).toInt32 = (28 : Int32) := by decide +kernel
theorem q101_155 : qD 101 155 (.iaload) 1 156 := by decide +kernel
theorem q101_156 : qD 101 156 (.ireturn) 1 157 ∧ mR 101 = some .int := by decide +kernel
theorem q101_157 : qD 101 157 (.aload_n 0) 1 158 ∧ ((0 : Fin 4) : Nat) = 0 := by decide +kernel
theorem q101_158 : qG 101 158 47 161 10 9 333 2 := by decide +kernel
theorem q101_161 : qG 101 161 182 164 7 0 240 2 := by decide +kernel
theorem q101_164 : qD 101 164 (.bipush 30) 2 166 ∧ (Int8.ofInt (30)).toInt32 = (30 : Int32) := by decide +kernel
theorem q101_166 : qD 101 166 (.iaload) 1 167 := by decide +kernel
theorem q101_167 : qD 101 167 (.ireturn) 1 168 ∧ mR 101 = some .int := by decide +kernel
theorem q101_168 : qD 101 168 (.aload_n 0) 1 169 ∧ ((0 : Fin 4) : Nat) = 0 := by decide +kernel
theorem q101_169 : qG 101 169 47 172 10 9 333 2 := by decide +kernel
theorem q101_172 : qG 101 172 182 175 7 0 240 2 := by decide +kernel
theorem q101_175 : qD 101 175 (.bipush 31) 2 177 ∧ (Int8.ofInt (31)).toInt32 = (31 : Int32) := by decide +kernel
theorem q101_177 : qD 101 177 (.iaload) 1 178 := by decide +kernel
theorem q101_178 : qD 101 178 (.ireturn) 1 179 ∧ mR 101 = some .int := by decide +kernel
theorem q101_179 : qD 101 179 (.aload_n 0) 1 180 ∧ ((0 : Fin 4) : Nat) = 0 := by decide +kernel
theorem q101_180 : qG 101 180 47 183 10 9 333 2 := by decide +kernel
theorem q101_183 : qD 101 183 (.aload_n 0) 1 184 ∧ ((0 : Fin 4) : Nat) = 0 := by decide +kernel
theorem q101_184 : qG 101 184 19 187 10 1 325 2 := by decide +kernel
theorem q101_187 : qG 101 187 148 190 3 3 179 0 := by decide +kernel
theorem q101_190 : qD 101 190 (.invokevirtual 220) 3 193 ∧ qI 101 220 60 761 := by decide +kernel
theorem q101_193 : qD 101 193 (.ireturn) 1 194 ∧ mR 101 = some .int := by decide +kernel
theorem q101_194 : qD 101 194 (.aload_n 0) 1 195 ∧ ((0 : Fin 4) : Nat) = 0 := by decide +kernel
theorem q101_195 : qG 101 195 205 198 10 8 332 0 := by decide +kernel
theorem q101_198 : qD 101 198 (.ireturn) 1 199 ∧ mR 101 = some .int := by decide +kernel
theorem q101_199 : qD 101 199 (.aload_n 0) 1 200 ∧ ((0 : Fin 4) : Nat) = 0 := by decide +kernel
theorem q101_200 : qG 101 200 84 203 10 17 341 2 := by decide +kernel
theorem q101_203 : qG 101 203 223 206 9 2 298 0 := by decide +kernel
theorem q101_206 : qD 101 206 (.ireturn) 1 207 ∧ mR 101 = some .int := by decide +kernel
theorem q101_207 : qD 101 207 (.aload_n 0) 1 208 ∧ ((0 : Fin 4) : Nat) = 0 := by decide +kernel
theorem q101_208 : qD 101 208 (.invokevirtual 208) 3 211 ∧ qI 101 208 107 743 := by decide +kernel
theorem q101_211 : qD 101 211 (.ireturn) 1 212 ∧ mR 101 = some .int := by decide +kernel
theorem q101_212 : qD 101 212 (.aload_n 0) 1 213 ∧ ((0 : Fin 4) : Nat) = 0 := by decide +kernel
theorem q101_213 : qG 101 213 70 216 10 15 339 2 := by decide +kernel
theorem q101_216 : qG 101 216 226 219 0 2 263 0 := by decide +kernel
theorem q101_219 : qD 101 219 (.ireturn) 1 220 ∧ mR 101 = some .int := by decide +kernel
theorem q101_220 : qD 101 220 (.ldc 229) 2 222 ∧ inG 765 (.constant (mN 101).cls 229 (-1000000)) := by decide +kernel
theorem q101_222 : qD 101 222 (.ireturn) 1 223 ∧ mR 101 = some .int := by decide +kernel
theorem q102_0 : qD 102 0 (.aload_n 0) 1 1 ∧ ((0 : Fin 4) : Nat) = 0 := by decide +kernel
theorem q102_1 : qG 102 1 19 4 10 1 325 2 := by decide +kernel
theorem q102_4 : qG 102 4 148 7 3 3 179 0 := by decide +kernel
theorem q102_7 : qJ 102 7 (.ifCond .le 7) 10 (7) 14 := by decide +kernel
theorem q102_10 : qD 102 10 (.iconst 1) 1 11 ∧ Int32.ofInt (1) = (1 : Int32) := by decide +kernel
theorem q102_11 : qJ 102 11 (.goto 4) 14 (4) 15 := by decide +kernel
theorem q102_14 : qD 102 14 (.iconst 0) 1 15 ∧ Int32.ofInt (0) = (0 : Int32) := by decide +kernel
theorem q102_15 : qD 102 15 (.ireturn) 1 16 ∧ mR 102 = some .boolean := by decide +kernel
theorem q103_0 : qD 103 0 (.iload_n 1) 1 1 ∧ ((1 : Fin 4) : Nat) = 1 := by decide +kernel
theorem q103_1 : qJ 103 1 (.ifCond .lt 18) 4 (18) 19 := by decide +kernel
theorem q103_4 : qD 103 4 (.iload_n 1) 1 5 ∧ ((1 : Fin 4) : Nat) = 1 := by decide +kernel
theorem q103_5 : qD 103 5 (.aload_n 0) 1 6 ∧ ((0 : Fin 4) : Nat) = 0 := by decide +kernel
theorem q103_6 : qG 103 6 19 9 10 1 325 2 := by decide +kernel
theorem q103_9 : qG 103 9 148 12 3 3 179 0 := by decide +kernel
theorem q103_12 : qJ 103 12 (.if_icmp .ge 7) 15 (7) 19 := by decide +kernel
theorem q103_15 : qD 103 15 (.iconst 1) 1 16 ∧ Int32.ofInt (1) = (1 : Int32) := by decide +kernel
theorem q103_16 : qJ 103 16 (.goto 4) 19 (4) 20 := by decide +kernel
theorem q103_19 : qD 103 19 (.iconst 0) 1 20 ∧ Int32.ofInt (0) = (0 : Int32) := by decide +kernel
theorem q103_20 : qD 103 20 (.ireturn) 1 21 ∧ mR 103 = some .boolean := by decide +kernel
theorem q104_0 : qD 104 0 (.iload_n 1) 1 1 ∧ ((1 : Fin 4) : Nat) = 1 := by decide +kernel
theorem q104_1 : qJ 104 1 (.ifCond .lt 18) 4 (18) 19 := by decide +kernel
theorem q104_4 : qD 104 4 (.iload_n 1) 1 5 ∧ ((1 : Fin 4) : Nat) = 1 := by decide +kernel
theorem q104_5 : qD 104 5 (.aload_n 0) 1 6 ∧ ((0 : Fin 4) : Nat) = 0 := by decide +kernel
theorem q104_6 : qG 104 6 19 9 10 1 325 2 := by decide +kernel
theorem q104_9 : qG 104 9 148 12 3 3 179 0 := by decide +kernel
theorem q104_12 : qJ 104 12 (.if_icmp .ge 7) 15 (7) 19 := by decide +kernel
theorem q104_15 : qD 104 15 (.iconst 1) 1 16 ∧ Int32.ofInt (1) = (1 : Int32) := by decide +kernel
theorem q104_16 : qJ 104 16 (.goto 4) 19 (4) 20 := by decide +kernel
theorem q104_19 : qD 104 19 (.iconst 0) 1 20 ∧ Int32.ofInt (0) = (0 : Int32) := by decide +kernel
theorem q104_20 : qD 104 20 (.ireturn) 1 21 ∧ mR 104 = some .boolean := by decide +kernel
theorem q105_0 : qD 105 0 (.iload_n 1) 1 1 ∧ ((1 : Fin 4) : Nat) = 1 := by decide +kernel
theorem q105_1 : qJ 105 1 (.ifCond .lt 18) 4 (18) 19 := by decide +kernel
theorem q105_4 : qD 105 4 (.iload_n 1) 1 5 ∧ ((1 : Fin 4) : Nat) = 1 := by decide +kernel
theorem q105_5 : qD 105 5 (.aload_n 0) 1 6 ∧ ((0 : Fin 4) : Nat) = 0 := by decide +kernel
theorem q105_6 : qG 105 6 19 9 10 1 325 2 := by decide +kernel
theorem q105_9 : qG 105 9 214 12 3 4 183 0 := by decide +kernel
theorem q105_12 : qJ 105 12 (.if_icmp .ge 7) 15 (7) 19 := by decide +kernel
theorem q105_15 : qD 105 15 (.iconst 1) 1 16 ∧ Int32.ofInt (1) = (1 : Int32) := by decide +kernel
theorem q105_16 : qJ 105 16 (.goto 4) 19 (4) 20 := by decide +kernel
theorem q105_19 : qD 105 19 (.iconst 0) 1 20 ∧ Int32.ofInt (0) = (0 : Int32) := by decide +kernel
theorem q105_20 : qD 105 20 (.ireturn) 1 21 ∧ mR 105 = some .boolean := by decide +kernel
theorem q106_0 : qD 106 0 (.aload_n 0) 1 1 ∧ ((0 : Fin 4) : Nat) = 0 := by decide +kernel
theorem q106_1 : qG 106 1 47 4 10 9 333 2 := by decide +kernel
theorem q106_4 : qG 106 4 182 7 7 0 240 2 := by decide +kernel
theorem q106_7 : qD 106 7 (.iconst 0) 1 8 ∧ Int32.ofInt (0) = (0 : Int32) := by decide +kernel
theorem q106_8 : qD 106 8 (.aload_n 0) 1 9 ∧ ((0 : Fin 4) : Nat) = 0 := by decide +kernel
theorem q106_9 : qG 106 9 19 12 10 1 325 2 := by decide +kernel
theorem q106_12 : qD 106 12 (.invokevirtual 230) 3 15 ∧ qI 106 230 16 760 := by decide +kernel
theorem q106_15 : qD 106 15 (.iadd) 1 16 := by decide +kernel
theorem q106_16 : qD 106 16 (.iaload) 1 17 := by decide +kernel
theorem q106_17 : qD 106 17 (.ireturn) 1 18 ∧ mR 106 = some .int := by decide +kernel
theorem q107_0 : qD 107 0 (.aload_n 0) 1 1 ∧ ((0 : Fin 4) : Nat) = 0 := by decide +kernel
theorem q107_1 : qG 107 1 47 4 10 9 333 2 := by decide +kernel
theorem q107_4 : qG 107 4 182 7 7 0 240 2 := by decide +kernel
theorem q107_7 : qD 107 7 (.bipush 32) 2 9 ∧ (Int8.ofInt (32)).toInt32 = (32 : Int32) := by decide +kernel
theorem q107_9 : qD 107 9 (.iaload) 1 10 := by decide +kernel
theorem q107_10 : qD 107 10 (.bipush 60) 2 12 ∧ (Int8.ofInt (60)).toInt32 = (60 : Int32) := by decide +kernel
theorem q107_12 : qD 107 12 (.invokestatic 233) 3 15 ∧ inG 747 (.methodLink (mN 107).cls 233 Lib.Math.min.name) := by decide +kernel
theorem q107_15 : qD 107 15 (.ireturn) 1 16 ∧ mR 107 = some .int := by decide +kernel
theorem q108_0 : qD 108 0 (.aload_n 0) 1 1 ∧ ((0 : Fin 4) : Nat) = 0 := by decide +kernel
theorem q108_1 : qG 108 1 40 4 10 5 329 0 := by decide +kernel
theorem q108_4 : qJ 108 4 (.ifCond .lt 26) 7 (26) 30 := by decide +kernel
theorem q108_7 : qD 108 7 (.aload_n 0) 1 8 ∧ ((0 : Fin 4) : Nat) = 0 := by decide +kernel
theorem q108_8 : qG 108 8 40 11 10 5 329 0 := by decide +kernel
theorem q108_11 : qD 108 11 (.aload_n 0) 1 12 ∧ ((0 : Fin 4) : Nat) = 0 := by decide +kernel
theorem q108_12 : qG 108 12 117 15 10 4 328 0 := by decide +kernel
theorem q108_15 : qJ 108 15 (.if_icmp .ge 15) 18 (15) 30 := by decide +kernel
theorem q108_18 : qD 108 18 (.aload_n 0) 1 19 ∧ ((0 : Fin 4) : Nat) = 0 := by decide +kernel
theorem q108_19 : qG 108 19 28 22 10 3 327 2 := by decide +kernel
theorem q108_22 : qD 108 22 (.aload_n 0) 1 23 ∧ ((0 : Fin 4) : Nat) = 0 := by decide +kernel
theorem q108_23 : qG 108 23 40 26 10 5 329 0 := by decide +kernel
theorem q108_26 : qD 108 26 (.aaload) 1 27 := by decide +kernel
theorem q108_27 : qJ 108 27 (.goto 4) 30 (4) 31 := by decide +kernel
theorem q108_30 : qD 108 30 (.aconst_null) 1 31 := by decide +kernel
theorem q108_31 : qD 108 31 (.areturn) 1 32 ∧ mR 108 = some (.object "OneWindow$Law") := by decide +kernel
theorem q109_0 : qD 109 0 (.aload_n 0) 1 1 ∧ ((0 : Fin 4) : Nat) = 0 := by decide +kernel
theorem q109_1 : qD 109 1 (.iconst 0) 1 2 ∧ Int32.ofInt (0) = (0 : Int32) := by decide +kernel
theorem q109_2 : qD 109 2 (.iload_n 1) 1 3 ∧ ((1 : Fin 4) : Nat) = 1 := by decide +kernel
theorem q109_3 : qD 109 3 (.iconst (-1)) 1 4 ∧ Int32.ofInt (-1) = (-1 : Int32) := by decide +kernel
theorem q109_4 : qD 109 4 (.invokevirtual 238) 3 7 ∧ qI 109 238 120 770 := by decide +kernel
theorem q109_7 : qJ 109 7 (.ifCond .eq 16) 10 (16) 23 := by decide +kernel
theorem q109_10 : qD 109 10 (.aload_n 0) 1 11 ∧ ((0 : Fin 4) : Nat) = 0 := by decide +kernel
theorem q109_11 : qG 109 11 47 14 10 9 333 2 := by decide +kernel
theorem q109_14 : qG 109 14 182 17 7 0 240 2 := by decide +kernel
theorem q109_17 : qD 109 17 (.bipush 28) 2 19 ∧ (Int8.ofInt (28)).toInt32 = (28 : Int32) := by decide +kernel
theorem q109_19 : qD 109 19 (.iaload) 1 20 := by decide +kernel
theorem q109_20 : qJ 109 20 (.goto 4) 23 (4) 24 := by decide +kernel
theorem q109_23 : qD 109 23 (.iconst (-1)) 1 24 ∧ Int32.ofInt (-1) = (-1 : Int32) := by decide +kernel
theorem q109_24 : qD 109 24 (.ireturn) 1 25 ∧ mR 109 = some .int := by decide +kernel
theorem q110_0 : qD 110 0 (.aload_n 0) 1 1 ∧ ((0 : Fin 4) : Nat) = 0 := by decide +kernel
theorem q110_1 : qD 110 1 (.iconst 2) 1 2 ∧ Int32.ofInt (2) = (2 : Int32) := by decide +kernel
theorem q110_2 : qD 110 2 (.iconst (-1)) 1 3 ∧ Int32.ofInt (-1) = (-1 : Int32) := by decide +kernel
theorem q110_3 : qD 110 3 (.iconst (-1)) 1 4 ∧ Int32.ofInt (-1) = (-1 : Int32) := by decide +kernel
theorem q110_4 : qD 110 4 (.invokevirtual 238) 3 7 ∧ qI 110 238 120 770 := by decide +kernel
theorem q110_7 : qJ 110 7 (.ifCond .eq 16) 10 (16) 23 := by decide +kernel
theorem q110_10 : qD 110 10 (.aload_n 0) 1 11 ∧ ((0 : Fin 4) : Nat) = 0 := by decide +kernel
theorem q110_11 : qG 110 11 47 14 10 9 333 2 := by decide +kernel
theorem q110_14 : qG 110 14 182 17 7 0 240 2 := by decide +kernel
theorem q110_17 : qD 110 17 (.bipush 29) 2 19 ∧ (Int8.ofInt (29)).toInt32 = (29 : Int32) := by decide +kernel
theorem q110_19 : qD 110 19 (.iaload) 1 20 := by decide +kernel
theorem q110_20 : qJ 110 20 (.goto 4) 23 (4) 24 := by decide +kernel
theorem q110_23 : qD 110 23 (.iconst (-1)) 1 24 ∧ Int32.ofInt (-1) = (-1 : Int32) := by decide +kernel
theorem q110_24 : qD 110 24 (.ireturn) 1 25 ∧ mR 110 = some .int := by decide +kernel
theorem q111_0 : qD 111 0 (.aload_n 0) 1 1 ∧ ((0 : Fin 4) : Nat) = 0 := by decide +kernel
theorem q111_1 : qD 111 1 (.iconst 1) 1 2 ∧ Int32.ofInt (1) = (1 : Int32) := by decide +kernel
theorem q111_2 : qD 111 2 (.iload_n 1) 1 3 ∧ ((1 : Fin 4) : Nat) = 1 := by decide +kernel
theorem q111_3 : qD 111 3 (.iload_n 2) 1 4 ∧ ((2 : Fin 4) : Nat) = 2 := by decide +kernel
theorem q111_4 : qD 111 4 (.invokevirtual 238) 3 7 ∧ qI 111 238 120 770 := by decide +kernel
theorem q111_7 : qJ 111 7 (.ifCond .eq 10) 10 (10) 17 := by decide +kernel
theorem q111_10 : qD 111 10 (.aload_n 0) 1 11 ∧ ((0 : Fin 4) : Nat) = 0 := by decide +kernel
theorem q111_11 : qD 111 11 (.invokevirtual 217) 3 14 ∧ qI 111 217 106 756 := by decide +kernel
theorem q111_14 : qJ 111 14 (.goto 4) 17 (4) 18 := by decide +kernel
theorem q111_17 : qD 111 17 (.iconst (-1)) 1 18 ∧ Int32.ofInt (-1) = (-1 : Int32) := by decide +kernel
theorem q111_18 : qD 111 18 (.ireturn) 1 19 ∧ mR 111 = some .int := by decide +kernel
theorem q112_0 : qD 112 0 (.aload_n 0) 1 1 ∧ ((0 : Fin 4) : Nat) = 0 := by decide +kernel
theorem q112_1 : qD 112 1 (.iload_n 1) 1 2 ∧ ((1 : Fin 4) : Nat) = 1 := by decide +kernel
theorem q112_2 : qD 112 2 (.invokevirtual 159) 3 5 ∧ qI 112 159 103 778 := by decide +kernel
theorem q112_5 : qJ 112 5 (.ifCond .eq 20) 8 (20) 25 := by decide +kernel
theorem q112_8 : qD 112 8 (.iload_n 2) 1 9 ∧ ((2 : Fin 4) : Nat) = 2 := by decide +kernel
theorem q112_9 : qJ 112 9 (.ifCond .lt 16) 12 (16) 25 := by decide +kernel
theorem q112_12 : qD 112 12 (.iload_n 2) 1 13 ∧ ((2 : Fin 4) : Nat) = 2 := by decide +kernel
theorem q112_13 : qD 112 13 (.iconst 1) 1 14 ∧ Int32.ofInt (1) = (1 : Int32) := by decide +kernel
theorem q112_14 : qD 112 14 (.aload_n 0) 1 15 ∧ ((0 : Fin 4) : Nat) = 0 := by decide +kernel
theorem q112_15 : qG 112 15 19 18 10 1 325 2 := by decide +kernel
theorem q112_18 : qG 112 18 214 21 3 4 183 0 := by decide +kernel
theorem q112_21 : qD 112 21 (.ishl) 1 22 := by decide +kernel
theorem q112_22 : qJ 112 22 (.if_icmp .lt 5) 25 (5) 27 := by decide +kernel
theorem q112_25 : qD 112 25 (.iconst 0) 1 26 ∧ Int32.ofInt (0) = (0 : Int32) := by decide +kernel
theorem q112_26 : qD 112 26 (.ireturn) 1 27 ∧ mR 112 = some .boolean := by decide +kernel
theorem q112_27 : qD 112 27 (.aload_n 0) 1 28 ∧ ((0 : Fin 4) : Nat) = 0 := by decide +kernel
theorem q112_28 : qG 112 28 47 31 10 9 333 2 := by decide +kernel
theorem q112_31 : qG 112 31 182 34 7 0 240 2 := by decide +kernel
theorem q112_34 : qD 112 34 (.bipush 14) 2 36 ∧ (Int8.ofInt (14)).toInt32 = (14 : Int32) := by decide +kernel
theorem q112_36 : qD 112 36 (.iload_n 1) 1 37 ∧ ((1 : Fin 4) : Nat) = 1 := by decide +kernel
theorem q112_37 : qD 112 37 (.iadd) 1 38 := by decide +kernel
theorem q112_38 : qD 112 38 (.iaload) 1 39 := by decide +kernel
theorem q112_39 : qD 112 39 (.iload_n 2) 1 40 ∧ ((2 : Fin 4) : Nat) = 2 := by decide +kernel
theorem q112_40 : qJ 112 40 (.if_icmp .ne 5) 43 (5) 45 := by decide +kernel
theorem q112_43 : qD 112 43 (.iconst 0) 1 44 ∧ Int32.ofInt (0) = (0 : Int32) := by decide +kernel
theorem q112_44 : qD 112 44 (.ireturn) 1 45 ∧ mR 112 = some .boolean := by decide +kernel
theorem q112_45 : qD 112 45 (.aload_n 0) 1 46 ∧ ((0 : Fin 4) : Nat) = 0 := by decide +kernel
theorem q112_46 : qG 112 46 70 49 10 15 339 2 := by decide +kernel
theorem q112_49 : qD 112 49 (.aload_n 0) 1 50 ∧ ((0 : Fin 4) : Nat) = 0 := by decide +kernel
theorem q112_50 : qG 112 50 47 53 10 9 333 2 := by decide +kernel
theorem q112_53 : qD 112 53 (.invokevirtual 242) 3 56 ∧ qI 112 242 2 790 := by decide +kernel
theorem q112_56 : qD 112 56 (.aload_n 0) 1 57 ∧ ((0 : Fin 4) : Nat) = 0 := by decide +kernel
theorem q112_57 : qG 112 57 47 60 10 9 333 2 := by decide +kernel
theorem q112_60 : qG 112 60 182 63 7 0 240 2 := by decide +kernel
theorem q112_63 : qD 112 63 (.bipush 14) 2 65 ∧ (Int8.ofInt (14)).toInt32 = (14 : Int32) := by decide +kernel
theorem q112_65 : qD 112 65 (.iload_n 1) 1 66 ∧ ((1 : Fin 4) : Nat) = 1 := by decide +kernel
theorem q112_66 : qD 112 66 (.iadd) 1 67 := by decide +kernel
theorem q112_67 : qD 112 67 (.iload_n 2) 1 68 ∧ ((2 : Fin 4) : Nat) = 2 := by decide +kernel
theorem q112_68 : qD 112 68 (.iastore) 1 69 := by decide +kernel
theorem q112_69 : qD 112 69 (.iconst 1) 1 70 ∧ Int32.ofInt (1) = (1 : Int32) := by decide +kernel
theorem q112_70 : qD 112 70 (.ireturn) 1 71 ∧ mR 112 = some .boolean := by decide +kernel
theorem q113_0 : qD 113 0 (.aload_n 0) 1 1 ∧ ((0 : Fin 4) : Nat) = 0 := by decide +kernel
theorem q113_1 : qG 113 1 47 4 10 9 333 2 := by decide +kernel
theorem q113_4 : qD 113 4 (.aload_n 0) 1 5 ∧ ((0 : Fin 4) : Nat) = 0 := by decide +kernel
theorem q113_5 : qG 113 5 19 8 10 1 325 2 := by decide +kernel
theorem q113_8 : qG 113 8 148 11 3 3 179 0 := by decide +kernel
theorem q113_11 : qD 113 11 (.invokevirtual 246) 3 14 ∧ qI 113 246 59 786 := by decide +kernel
theorem q113_14 : qD 113 14 (.istore_n 1) 1 15 ∧ ((1 : Fin 4) : Nat) = 1 ∧ 1 < mL 113 := by decide +kernel
theorem q113_15 : qD 113 15 (.aload_n 0) 1 16 ∧ ((0 : Fin 4) : Nat) = 0 := by decide +kernel
theorem q113_16 : qD 113 16 (.iconst 3) 1 17 ∧ Int32.ofInt (3) = (3 : Int32) := by decide +kernel
theorem q113_17 : qD 113 17 (.iconst (-1)) 1 18 ∧ Int32.ofInt (-1) = (-1 : Int32) := by decide +kernel
theorem q113_18 : qD 113 18 (.iconst (-1)) 1 19 ∧ Int32.ofInt (-1) = (-1 : Int32) := by decide +kernel
theorem q113_19 : qD 113 19 (.invokevirtual 238) 3 22 ∧ qI 113 238 120 770 := by decide +kernel
theorem q113_22 : qJ 113 22 (.ifCond .eq 7) 25 (7) 29 := by decide +kernel
theorem q113_25 : qD 113 25 (.iload_n 1) 1 26 ∧ ((1 : Fin 4) : Nat) = 1 := by decide +kernel
theorem q113_26 : qJ 113 26 (.goto 4) 29 (4) 30 := by decide +kernel
theorem q113_29 : qD 113 29 (.iconst (-1)) 1 30 ∧ Int32.ofInt (-1) = (-1 : Int32) := by decide +kernel
theorem q113_30 : qD 113 30 (.ireturn) 1 31 ∧ mR 113 = some .int := by decide +kernel
theorem q114_0 : qD 114 0 (.aload_n 0) 1 1 ∧ ((0 : Fin 4) : Nat) = 0 := by decide +kernel
theorem q114_1 : qD 114 1 (.iload_n 1) 1 2 ∧ ((1 : Fin 4) : Nat) = 1 := by decide +kernel
theorem q114_2 : qD 114 2 (.invokevirtual 249) 3 5 ∧ qI 114 249 119 921 := by decide +kernel
theorem q114_5 : qJ 114 5 (.ifCond .ne 5) 8 (5) 10 := by decide +kernel
theorem q114_8 : qD 114 8 (.iconst (-1)) 1 9 ∧ Int32.ofInt (-1) = (-1 : Int32) := by decide +kernel
theorem q114_9 : qD 114 9 (.ireturn) 1 10 ∧ mR 114 = some .int := by decide +kernel
theorem q114_10 : qD 114 10 (.iconst 0) 1 11 ∧ Int32.ofInt (0) = (0 : Int32) := by decide +kernel
theorem q114_11 : qD 114 11 (.istore_n 2) 1 12 ∧ ((2 : Fin 4) : Nat) = 2 ∧ 2 < mL 114 := by decide +kernel
theorem q114_12 : qD 114 12 (.iload_n 2) 1 13 ∧ ((2 : Fin 4) : Nat) = 2 := by decide +kernel
theorem q114_13 : qD 114 13 (.iload_n 1) 1 14 ∧ ((1 : Fin 4) : Nat) = 1 := by decide +kernel
theorem q114_14 : qJ 114 14 (.if_icmp .ge 17) 17 (17) 31 := by decide +kernel
theorem q114_17 : qD 114 17 (.aload_n 0) 1 18 ∧ ((0 : Fin 4) : Nat) = 0 := by decide +kernel
theorem q114_18 : qD 114 18 (.iconst 4) 1 19 ∧ Int32.ofInt (4) = (4 : Int32) := by decide +kernel
theorem q114_19 : qD 114 19 (.iconst (-1)) 1 20 ∧ Int32.ofInt (-1) = (-1 : Int32) := by decide +kernel
theorem q114_20 : qD 114 20 (.iconst (-1)) 1 21 ∧ Int32.ofInt (-1) = (-1 : Int32) := by decide +kernel
theorem q114_21 : qD 114 21 (.invokevirtual 238) 3 24 ∧ qI 114 238 120 770 := by decide +kernel
theorem q114_24 : qD 114 24 (.pop) 1 25 := by decide +kernel
theorem q114_25 : qD 114 25 (.iinc 2 1) 3 28 ∧ 2 < mL 114 ∧ Int32.ofInt (1) = (1 : Int32) := by decide +kernel
theorem q114_28 : qJ 114 28 (.goto (-16)) 31 (-16) 12 := by decide +kernel
theorem q114_31 : qD 114 31 (.aload_n 0) 1 32 ∧ ((0 : Fin 4) : Nat) = 0 := by decide +kernel
theorem q114_32 : qG 114 32 47 35 10 9 333 2 := by decide +kernel
theorem q114_35 : qG 114 35 182 38 7 0 240 2 := by decide +kernel
theorem q114_38 : qD 114 38 (.bipush 32) 2 40 ∧ (Int8.ofInt (32)).toInt32 = (32 : Int32) := by decide +kernel
theorem q114_40 : qD 114 40 (.iaload) 1 41 := by decide +kernel
theorem q114_41 : qD 114 41 (.ireturn) 1 42 ∧ mR 114 = some .int := by decide +kernel
theorem q115_0 : qD 115 0 (.aload_n 0) 1 1 ∧ ((0 : Fin 4) : Nat) = 0 := by decide +kernel
theorem q115_1 : qD 115 1 (.iload_n 1) 1 2 ∧ ((1 : Fin 4) : Nat) = 1 := by decide +kernel
theorem q115_2 : qD 115 2 (.invokevirtual 249) 3 5 ∧ qI 115 249 119 921 := by decide +kernel
theorem q115_5 : qJ 115 5 (.ifCond .ne 5) 8 (5) 10 := by decide +kernel
theorem q115_8 : qD 115 8 (.iconst (-1)) 1 9 ∧ Int32.ofInt (-1) = (-1 : Int32) := by decide +kernel
theorem q115_9 : qD 115 9 (.ireturn) 1 10 ∧ mR 115 = some .int := by decide +kernel
theorem q115_10 : qD 115 10 (.aload_n 0) 1 11 ∧ ((0 : Fin 4) : Nat) = 0 := by decide +kernel
theorem q115_11 : qD 115 11 (.lload_n 2) 1 12 ∧ ((2 : Fin 4) : Nat) = 2 := by decide +kernel
theorem q115_12 : qP 115 12 252 15 10 19 343 1 := by decide +kernel
theorem q115_15 : qD 115 15 (.iconst 0) 1 16 ∧ Int32.ofInt (0) = (0 : Int32) := by decide +kernel
theorem q115_16 : qD 115 16 (.istore 4) 2 18 ∧ 4 < mL 115 := by decide +kernel
theorem q115_18 : qD 115 18 (.iload 4) 2 20 := by decide +kernel
theorem q115_20 : qD 115 20 (.iload_n 1) 1 21 ∧ ((1 : Fin 4) : Nat) = 1 := by decide +kernel
theorem q115_21 : qJ 115 21 (.if_icmp .ge 13) 24 (13) 34 := by decide +kernel
theorem q115_24 : qD 115 24 (.aload_n 0) 1 25 ∧ ((0 : Fin 4) : Nat) = 0 := by decide +kernel
theorem q115_25 : qD 115 25 (.invokevirtual 256) 3 28 ∧ qI 115 256 123 929 := by decide +kernel
theorem q115_28 : qD 115 28 (.iinc 4 1) 3 31 ∧ 4 < mL 115 ∧ Int32.ofInt (1) = (1 : Int32) := by decide +kernel
theorem q115_31 : qJ 115 31 (.goto (-13)) 34 (-13) 18 := by decide +kernel
theorem q115_34 : qD 115 34 (.aload_n 0) 1 35 ∧ ((0 : Fin 4) : Nat) = 0 := by decide +kernel
theorem q115_35 : qG 115 35 47 38 10 9 333 2 := by decide +kernel
theorem q115_38 : qG 115 38 182 41 7 0 240 2 := by decide +kernel
theorem q115_41 : qD 115 41 (.bipush 32) 2 43 ∧ (Int8.ofInt (32)).toInt32 = (32 : Int32) := by decide +kernel
theorem q115_43 : qD 115 43 (.iaload) 1 44 := by decide +kernel
theorem q115_44 : qD 115 44 (.ireturn) 1 45 ∧ mR 115 = some .int := by decide +kernel
theorem q116_0 : qD 116 0 (.aload_n 0) 1 1 ∧ ((0 : Fin 4) : Nat) = 0 := by decide +kernel
theorem q116_1 : qG 116 1 70 4 10 15 339 2 := by decide +kernel
theorem q116_4 : qG 116 4 226 7 0 2 263 0 := by decide +kernel
theorem q116_7 : qJ 116 7 (.ifCond .ne 5) 10 (5) 12 := by decide +kernel
theorem q116_10 : qD 116 10 (.iconst (-1)) 1 11 ∧ Int32.ofInt (-1) = (-1 : Int32) := by decide +kernel
theorem q116_11 : qD 116 11 (.ireturn) 1 12 ∧ mR 116 = some .int := by decide +kernel
theorem q116_12 : qD 116 12 (.aload_n 0) 1 13 ∧ ((0 : Fin 4) : Nat) = 0 := by decide +kernel
theorem q116_13 : qG 116 13 70 16 10 15 339 2 := by decide +kernel
theorem q116_16 : qD 116 16 (.aload_n 0) 1 17 ∧ ((0 : Fin 4) : Nat) = 0 := by decide +kernel
theorem q116_17 : qG 116 17 47 20 10 9 333 2 := by decide +kernel
theorem q116_20 : qD 116 20 (.invokevirtual 259) 3 23 ∧ qI 116 259 3 949 := by decide +kernel
theorem q116_23 : qD 116 23 (.aload_n 0) 1 24 ∧ ((0 : Fin 4) : Nat) = 0 := by decide +kernel
theorem q116_24 : qG 116 24 70 27 10 15 339 2 := by decide +kernel
theorem q116_27 : qG 116 27 226 30 0 2 263 0 := by decide +kernel
theorem q116_30 : qD 116 30 (.ireturn) 1 31 ∧ mR 116 = some .int := by decide +kernel
theorem q117_0 : qD 117 0 (.aload_n 0) 1 1 ∧ ((0 : Fin 4) : Nat) = 0 := by decide +kernel
theorem q117_1 : qD 117 1 (.invokevirtual 151) 3 4 ∧ qI 117 151 102 695 := by decide +kernel
theorem q117_4 : qJ 117 4 (.ifCond .ne 5) 7 (5) 9 := by decide +kernel
theorem q117_7 : qD 117 7 (.iconst (-1)) 1 8 ∧ Int32.ofInt (-1) = (-1 : Int32) := by decide +kernel
theorem q117_8 : qD 117 8 (.ireturn) 1 9 ∧ mR 117 = some .int := by decide +kernel
theorem q117_9 : qD 117 9 (.aload_n 0) 1 10 ∧ ((0 : Fin 4) : Nat) = 0 := by decide +kernel
theorem q117_10 : qG 117 10 54 13 10 11 335 2 := by decide +kernel
theorem q117_13 : qD 117 13 (.aload_n 0) 1 14 ∧ ((0 : Fin 4) : Nat) = 0 := by decide +kernel
theorem q117_14 : qG 117 14 47 17 10 9 333 2 := by decide +kernel
theorem q117_17 : qD 117 17 (.invokevirtual 262) 3 20 ∧ qI 117 262 55 957 := by decide +kernel
theorem q117_20 : qD 117 20 (.aload_n 0) 1 21 ∧ ((0 : Fin 4) : Nat) = 0 := by decide +kernel
theorem q117_21 : qG 117 21 64 24 10 14 338 2 := by decide +kernel
theorem q117_24 : qD 117 24 (.aload_n 0) 1 25 ∧ ((0 : Fin 4) : Nat) = 0 := by decide +kernel
theorem q117_25 : qG 117 25 60 28 10 13 337 2 := by decide +kernel
theorem q117_28 : qD 117 28 (.invokevirtual 265) 3 31 ∧ qI 117 265 11 962 := by decide +kernel
theorem q117_31 : qD 117 31 (.aload_n 0) 1 32 ∧ ((0 : Fin 4) : Nat) = 0 := by decide +kernel
theorem q117_32 : qD 117 32 (.iconst 1) 1 33 ∧ Int32.ofInt (1) = (1 : Int32) := by decide +kernel
theorem q117_33 : qP 117 33 144 36 10 12 336 0 := by decide +kernel
theorem q117_36 : qD 117 36 (.aload_n 0) 1 37 ∧ ((0 : Fin 4) : Nat) = 0 := by decide +kernel
theorem q117_37 : qG 117 37 47 40 10 9 333 2 := by decide +kernel
theorem q117_40 : qG 117 40 182 43 7 0 240 2 := by decide +kernel
theorem q117_43 : qD 117 43 (.bipush 32) 2 45 ∧ (Int8.ofInt (32)).toInt32 = (32 : Int32) := by decide +kernel
theorem q117_45 : qD 117 45 (.iaload) 1 46 := by decide +kernel
theorem q117_46 : qD 117 46 (.ireturn) 1 47 ∧ mR 117 = some .int := by decide +kernel
theorem q118_0 : qD 118 0 (.aload_n 0) 1 1 ∧ ((0 : Fin 4) : Nat) = 0 := by decide +kernel
theorem q118_1 : qG 118 1 144 4 10 12 336 0 := by decide +kernel
theorem q118_4 : qJ 118 4 (.ifCond .ne 5) 7 (5) 9 := by decide +kernel
theorem q118_7 : qD 118 7 (.iconst (-1)) 1 8 ∧ Int32.ofInt (-1) = (-1 : Int32) := by decide +kernel
theorem q118_8 : qD 118 8 (.ireturn) 1 9 ∧ mR 118 = some .int := by decide +kernel
theorem q118_9 : qD 118 9 (.aload_n 0) 1 10 ∧ ((0 : Fin 4) : Nat) = 0 := by decide +kernel
theorem q118_10 : qG 118 10 47 13 10 9 333 2 := by decide +kernel
theorem q118_13 : qD 118 13 (.aload_n 0) 1 14 ∧ ((0 : Fin 4) : Nat) = 0 := by decide +kernel
theorem q118_14 : qG 118 14 54 17 10 11 335 2 := by decide +kernel
theorem q118_17 : qD 118 17 (.invokevirtual 262) 3 20 ∧ qI 118 262 55 957 := by decide +kernel
theorem q118_20 : qD 118 20 (.aload_n 0) 1 21 ∧ ((0 : Fin 4) : Nat) = 0 := by decide +kernel
theorem q118_21 : qG 118 21 60 24 10 13 337 2 := by decide +kernel
theorem q118_24 : qD 118 24 (.aload_n 0) 1 25 ∧ ((0 : Fin 4) : Nat) = 0 := by decide +kernel
theorem q118_25 : qG 118 25 64 28 10 14 338 2 := by decide +kernel
theorem q118_28 : qD 118 28 (.invokevirtual 265) 3 31 ∧ qI 118 265 11 962 := by decide +kernel
theorem q118_31 : qD 118 31 (.aload_n 0) 1 32 ∧ ((0 : Fin 4) : Nat) = 0 := by decide +kernel
theorem q118_32 : qG 118 32 70 35 10 15 339 2 := by decide +kernel
theorem q118_35 : qD 118 35 (.invokevirtual 139) 3 38 ∧ qI 118 139 1 678 := by decide +kernel
theorem q118_38 : qD 118 38 (.aload_n 0) 1 39 ∧ ((0 : Fin 4) : Nat) = 0 := by decide +kernel
theorem q118_39 : qG 118 39 47 42 10 9 333 2 := by decide +kernel
theorem q118_42 : qG 118 42 182 45 7 0 240 2 := by decide +kernel
theorem q118_45 : qD 118 45 (.bipush 32) 2 47 ∧ (Int8.ofInt (32)).toInt32 = (32 : Int32) := by decide +kernel
theorem q118_47 : qD 118 47 (.iaload) 1 48 := by decide +kernel
theorem q118_48 : qD 118 48 (.ireturn) 1 49 ∧ mR 118 = some .int := by decide +kernel
theorem q119_0 : qD 119 0 (.aload_n 0) 1 1 ∧ ((0 : Fin 4) : Nat) = 0 := by decide +kernel
theorem q119_1 : qD 119 1 (.invokevirtual 151) 3 4 ∧ qI 119 151 102 695 := by decide +kernel
theorem q119_4 : qJ 119 4 (.ifCond .eq 36) 7 (36) 40 := by decide +kernel
theorem q119_7 : qD 119 7 (.iload_n 1) 1 8 ∧ ((1 : Fin 4) : Nat) = 1 := by decide +kernel
theorem q119_8 : qD 119 8 (.iconst 1) 1 9 ∧ Int32.ofInt (1) = (1 : Int32) := by decide +kernel
theorem q119_9 : qJ 119 9 (.if_icmp .lt 31) 12 (31) 40 := by decide +kernel
theorem q119_12 : qD 119 12 (.iload_n 1) 1 13 ∧ ((1 : Fin 4) : Nat) = 1 := by decide +kernel
theorem q119_13 : qD 119 13 (.bipush 60) 2 15 ∧ (Int8.ofInt (60)).toInt32 = (60 : Int32) := by decide +kernel
theorem q119_15 : qJ 119 15 (.if_icmp .gt 25) 18 (25) 40 := by decide +kernel
theorem q119_18 : qD 119 18 (.aload_n 0) 1 19 ∧ ((0 : Fin 4) : Nat) = 0 := by decide +kernel
theorem q119_19 : qG 119 19 47 22 10 9 333 2 := by decide +kernel
theorem q119_22 : qG 119 22 182 25 7 0 240 2 := by decide +kernel
theorem q119_25 : qD 119 25 (.bipush 32) 2 27 ∧ (Int8.ofInt (32)).toInt32 = (32 : Int32) := by decide +kernel
theorem q119_27 : qD 119 27 (.iaload) 1 28 := by decide +kernel
theorem q119_28 : qD 119 28 (.iload_n 1) 1 29 ∧ ((1 : Fin 4) : Nat) = 1 := by decide +kernel
theorem q119_29 : qD 119 29 (.iadd) 1 30 := by decide +kernel
theorem q119_30 : qD 119 30 (.sipush 9999) 3 33 ∧ (Int16.ofInt (9999)).toInt32 = (9999 : Int32) := by decide +kernel
theorem q119_33 : qJ 119 33 (.if_icmp .gt 7) 36 (7) 40 := by decide +kernel
theorem q119_36 : qD 119 36 (.iconst 1) 1 37 ∧ Int32.ofInt (1) = (1 : Int32) := by decide +kernel
theorem q119_37 : qJ 119 37 (.goto 4) 40 (4) 41 := by decide +kernel
theorem q119_40 : qD 119 40 (.iconst 0) 1 41 ∧ Int32.ofInt (0) = (0 : Int32) := by decide +kernel
theorem q119_41 : qD 119 41 (.ireturn) 1 42 ∧ mR 119 = some .boolean := by decide +kernel
theorem q120_0 : qD 120 0 (.aload_n 0) 1 1 ∧ ((0 : Fin 4) : Nat) = 0 := by decide +kernel
theorem q120_1 : qD 120 1 (.aload_n 0) 1 2 ∧ ((0 : Fin 4) : Nat) = 0 := by decide +kernel
theorem q120_2 : qG 120 2 47 5 10 9 333 2 := by decide +kernel
theorem q120_5 : qD 120 5 (.iload_n 1) 1 6 ∧ ((1 : Fin 4) : Nat) = 1 := by decide +kernel
theorem q120_6 : qD 120 6 (.iload_n 2) 1 7 ∧ ((2 : Fin 4) : Nat) = 2 := by decide +kernel
theorem q120_7 : qD 120 7 (.iload_n 3) 1 8 ∧ ((3 : Fin 4) : Nat) = 3 := by decide +kernel
theorem q120_8 : qD 120 8 (.invokevirtual 268) 3 11 ∧ qI 120 268 121 774 := by decide +kernel
theorem q120_11 : qJ 120 11 (.ifCond .ne 5) 14 (5) 16 := by decide +kernel
theorem q120_14 : qD 120 14 (.iconst 0) 1 15 ∧ Int32.ofInt (0) = (0 : Int32) := by decide +kernel
theorem q120_15 : qD 120 15 (.ireturn) 1 16 ∧ mR 120 = some .boolean := by decide +kernel
theorem q120_16 : qD 120 16 (.aload_n 0) 1 17 ∧ ((0 : Fin 4) : Nat) = 0 := by decide +kernel
theorem q120_17 : qG 120 17 70 20 10 15 339 2 := by decide +kernel
theorem q120_20 : qD 120 20 (.aload_n 0) 1 21 ∧ ((0 : Fin 4) : Nat) = 0 := by decide +kernel
theorem q120_21 : qG 120 21 47 24 10 9 333 2 := by decide +kernel
theorem q120_24 : qD 120 24 (.invokevirtual 242) 3 27 ∧ qI 120 242 2 790 := by decide +kernel
theorem q120_27 : qD 120 27 (.iload_n 1) 1 28 ∧ ((1 : Fin 4) : Nat) = 1 := by decide +kernel
theorem q120_28 : qD 120 28 (.iconst 4) 1 29 ∧ Int32.ofInt (4) = (4 : Int32) := by decide +kernel
theorem q120_29 : qJ 120 29 (.if_icmp .ne 14) 32 (14) 43 := by decide +kernel
theorem q120_32 : qD 120 32 (.aload_n 0) 1 33 ∧ ((0 : Fin 4) : Nat) = 0 := by decide +kernel
theorem q120_33 : qG 120 33 60 36 10 13 337 2 := by decide +kernel
theorem q120_36 : qD 120 36 (.aload_n 0) 1 37 ∧ ((0 : Fin 4) : Nat) = 0 := by decide +kernel
theorem q120_37 : qG 120 37 47 40 10 9 333 2 := by decide +kernel
theorem q120_40 : qD 120 40 (.invokevirtual 272) 3 43 ∧ qI 120 272 9 796 := by decide +kernel
theorem q120_43 : qD 120 43 (.aload_n 0) 1 44 ∧ ((0 : Fin 4) : Nat) = 0 := by decide +kernel
theorem q120_44 : qD 120 44 (.aload_n 0) 1 45 ∧ ((0 : Fin 4) : Nat) = 0 := by decide +kernel
theorem q120_45 : qG 120 45 47 48 10 9 333 2 := by decide +kernel
theorem q120_48 : qD 120 48 (.iload_n 1) 1 49 ∧ ((1 : Fin 4) : Nat) = 1 := by decide +kernel
theorem q120_49 : qD 120 49 (.iload_n 2) 1 50 ∧ ((2 : Fin 4) : Nat) = 2 := by decide +kernel
theorem q120_50 : qD 120 50 (.iload_n 3) 1 51 ∧ ((3 : Fin 4) : Nat) = 3 := by decide +kernel
theorem q120_51 : qD 120 51 (.invokevirtual 275) 3 54 ∧ qI 120 275 122 800 := by decide +kernel
theorem q120_54 : qD 120 54 (.iconst 1) 1 55 ∧ Int32.ofInt (1) = (1 : Int32) := by decide +kernel
theorem q120_55 : qD 120 55 (.ireturn) 1 56 ∧ mR 120 = some .boolean := by decide +kernel
theorem q121_0 : qD 121 0 (.aload_n 0) 1 1 ∧ ((0 : Fin 4) : Nat) = 0 := by decide +kernel
theorem q121_1 : qD 121 1 (.invokevirtual 151) 3 4 ∧ qI 121 151 102 695 := by decide +kernel
theorem q121_4 : qJ 121 4 (.ifCond .ne 5) 7 (5) 9 := by decide +kernel
theorem q121_7 : qD 121 7 (.iconst 0) 1 8 ∧ Int32.ofInt (0) = (0 : Int32) := by decide +kernel
theorem q121_8 : qD 121 8 (.ireturn) 1 9 ∧ mR 121 = some .boolean := by decide +kernel
theorem q121_9 : qD 121 9 (.iload_n 2) 1 10 ∧ ((2 : Fin 4) : Nat) = 2 := by decide +kernel
theorem q121_10 : qD 121 10 (.tableswitch 143 0 3 #[30, 52, 81, 114]) 30 40 ∧ (10 : Int) + (143) = (153 : Int) ∧ ((3 : Int) - (0) + 1).toNat = (#[30, 52, 81, 114] : Array Int).size := by decide +kernel
theorem q121_40 : qD 121 40 (.aload_n 0) 1 41 ∧ ((0 : Fin 4) : Nat) = 0 := by decide +kernel
theorem q121_41 : qD 121 41 (.iload_n 3) 1 42 ∧ ((3 : Fin 4) : Nat) = 3 := by decide +kernel
theorem q121_42 : qD 121 42 (.invokevirtual 193) 3 45 ∧ qI 121 193 105 715 := by decide +kernel
theorem q121_45 : qJ 121 45 (.ifCond .eq 15) 48 (15) 60 := by decide +kernel
theorem q121_48 : qD 121 48 (.aload_n 1) 1 49 ∧ ((1 : Fin 4) : Nat) = 1 := by decide +kernel
theorem q121_49 : qD 121 49 (.iload_n 3) 1 50 ∧ ((3 : Fin 4) : Nat) = 3 := by decide +kernel
theorem q121_50 : qD 121 50 (.invokevirtual 202) 3 53 ∧ qI 121 202 56 727 := by decide +kernel
theorem q121_53 : qJ 121 53 (.ifCond .ne 7) 56 (7) 60 := by decide +kernel
theorem q121_56 : qD 121 56 (.iconst 1) 1 57 ∧ Int32.ofInt (1) = (1 : Int32) := by decide +kernel
theorem q121_57 : qJ 121 57 (.goto 4) 60 (4) 61 := by decide +kernel
theorem q121_60 : qD 121 60 (.iconst 0) 1 61 ∧ Int32.ofInt (0) = (0 : Int32) := by decide +kernel
theorem q121_61 : qD 121 61 (.ireturn) 1 62 ∧ mR 121 = some .boolean := by decide +kernel
theorem q121_62 : qD 121 62 (.aload_n 0) 1 63 ∧ ((0 : Fin 4) : Nat) = 0 := by decide +kernel
theorem q121_63 : qD 121 63 (.iload_n 3) 1 64 ∧ ((3 : Fin 4) : Nat) = 3 := by decide +kernel
theorem q121_64 : qD 121 64 (.invokevirtual 159) 3 67 ∧ qI 121 159 103 778 := by decide +kernel
theorem q121_67 : qJ 121 67 (.ifCond .eq 22) 70 (22) 89 := by decide +kernel
theorem q121_70 : qD 121 70 (.aload_n 0) 1 71 ∧ ((0 : Fin 4) : Nat) = 0 := by decide +kernel
theorem q121_71 : qD 121 71 (.iload 4) 2 73 := by decide +kernel
theorem q121_73 : qD 121 73 (.invokevirtual 159) 3 76 ∧ qI 121 159 103 778 := by decide +kernel
theorem q121_76 : qJ 121 76 (.ifCond .eq 13) 79 (13) 89 := by decide +kernel
theorem q121_79 : qD 121 79 (.iload_n 3) 1 80 ∧ ((3 : Fin 4) : Nat) = 3 := by decide +kernel
theorem q121_80 : qD 121 80 (.iload 4) 2 82 := by decide +kernel
theorem q121_82 : qJ 121 82 (.if_icmp .eq 7) 85 (7) 89 := by decide +kernel
theorem q121_85 : qD 121 85 (.iconst 1) 1 86 ∧ Int32.ofInt (1) = (1 : Int32) := by decide +kernel
theorem q121_86 : qJ 121 86 (.goto 4) 89 (4) 90 := by decide +kernel
theorem q121_89 : qD 121 89 (.iconst 0) 1 90 ∧ Int32.ofInt (0) = (0 : Int32) := by decide +kernel
theorem q121_90 : qD 121 90 (.ireturn) 1 91 ∧ mR 121 = some .boolean := by decide +kernel
theorem q121_91 : qD 121 91 (.aload_n 1) 1 92 ∧ ((1 : Fin 4) : Nat) = 1 := by decide +kernel
theorem q121_92 : qG 121 92 182 95 7 0 240 2 := by decide +kernel
theorem q121_95 : qD 121 95 (.bipush 30) 2 97 ∧ (Int8.ofInt (30)).toInt32 = (30 : Int32) := by decide +kernel
theorem q121_97 : qD 121 97 (.iaload) 1 98 := by decide +kernel
theorem q121_98 : qJ 121 98 (.ifCond .ne 24) 101 (24) 122 := by decide +kernel
theorem q121_101 : qD 121 101 (.aload_n 1) 1 102 ∧ ((1 : Fin 4) : Nat) = 1 := by decide +kernel
theorem q121_102 : qG 121 102 182 105 7 0 240 2 := by decide +kernel
theorem q121_105 : qD 121 105 (.bipush 31) 2 107 ∧ (Int8.ofInt (31)).toInt32 = (31 : Int32) := by decide +kernel
theorem q121_107 : qD 121 107 (.iaload) 1 108 := by decide +kernel
theorem q121_108 : qD 121 108 (.aload_n 0) 1 109 ∧ ((0 : Fin 4) : Nat) = 0 := by decide +kernel
theorem q121_109 : qG 121 109 19 112 10 1 325 2 := by decide +kernel
theorem q121_112 : qD 121 112 (.invokevirtual 279) 3 115 ∧ qI 121 279 18 782 := by decide +kernel
theorem q121_115 : qJ 121 115 (.if_icmp .ge 7) 118 (7) 122 := by decide +kernel
theorem q121_118 : qD 121 118 (.iconst 1) 1 119 ∧ Int32.ofInt (1) = (1 : Int32) := by decide +kernel
theorem q121_119 : qJ 121 119 (.goto 4) 122 (4) 123 := by decide +kernel
theorem q121_122 : qD 121 122 (.iconst 0) 1 123 ∧ Int32.ofInt (0) = (0 : Int32) := by decide +kernel
theorem q121_123 : qD 121 123 (.ireturn) 1 124 ∧ mR 121 = some .boolean := by decide +kernel
theorem q121_124 : qD 121 124 (.aload_n 1) 1 125 ∧ ((1 : Fin 4) : Nat) = 1 := by decide +kernel
theorem q121_125 : qG 121 125 182 128 7 0 240 2 := by decide +kernel
theorem q121_128 : qD 121 128 (.bipush 7) 2 130 ∧ (Int8.ofInt (7)).toInt32 = (7 : Int32) := by decide +kernel
theorem q121_130 : qD 121 130 (.aload_n 1) 1 131 ∧ ((1 : Fin 4) : Nat) = 1 := by decide +kernel
theorem q121_131 : qD 121 131 (.aload_n 0) 1 132 ∧ ((0 : Fin 4) : Nat) = 0 := by decide +kernel
theorem q121_132 : qG 121 132 19 135 10 1 325 2 := by decide +kernel
theorem q121_135 : qG 121 135 148 138 3 3 179 0 := by decide +kernel
theorem q121_138 : qD 121 138 (.invokevirtual 246) 3 141 ∧ qI 121 246 59 786 := by decide +kernel
theorem q121_141 : qD 121 141 (.iadd) 1 142 := by decide +kernel
theorem q121_142 : qD 121 142 (.iaload) 1 143 := by decide +kernel
theorem q121_143 : qD 121 143 (.iconst 2) 1 144 ∧ Int32.ofInt (2) = (2 : Int32) := by decide +kernel
theorem q121_144 : qJ 121 144 (.if_icmp .lt 7) 147 (7) 151 := by decide +kernel
theorem q121_147 : qD 121 147 (.iconst 1) 1 148 ∧ Int32.ofInt (1) = (1 : Int32) := by decide +kernel
theorem q121_148 : qJ 121 148 (.goto 4) 151 (4) 152 := by decide +kernel
theorem q121_151 : qD 121 151 (.iconst 0) 1 152 ∧ Int32.ofInt (0) = (0 : Int32) := by decide +kernel
theorem q121_152 : qD 121 152 (.ireturn) 1 153 ∧ mR 121 = some .boolean := by decide +kernel
theorem q121_153 : qD 121 153 (.aload_n 1) 1 154 ∧ ((1 : Fin 4) : Nat) = 1 := by decide +kernel
theorem q121_154 : qG 121 154 182 157 7 0 240 2 := by decide +kernel
theorem q121_157 : qD 121 157 (.bipush 32) 2 159 ∧ (Int8.ofInt (32)).toInt32 = (32 : Int32) := by decide +kernel
theorem q121_159 : qD 121 159 (.iaload) 1 160 := by decide +kernel
theorem q121_160 : qD 121 160 (.sipush 9999) 3 163 ∧ (Int16.ofInt (9999)).toInt32 = (9999 : Int32) := by decide +kernel
theorem q121_163 : qJ 121 163 (.if_icmp .ge 7) 166 (7) 170 := by decide +kernel
theorem q121_166 : qD 121 166 (.iconst 1) 1 167 ∧ Int32.ofInt (1) = (1 : Int32) := by decide +kernel
theorem q121_167 : qJ 121 167 (.goto 4) 170 (4) 171 := by decide +kernel
theorem q121_170 : qD 121 170 (.iconst 0) 1 171 ∧ Int32.ofInt (0) = (0 : Int32) := by decide +kernel
theorem q121_171 : qD 121 171 (.ireturn) 1 172 ∧ mR 121 = some .boolean := by decide +kernel
theorem q122_0 : qD 122 0 (.iload_n 2) 1 1 ∧ ((2 : Fin 4) : Nat) = 2 := by decide +kernel
theorem q122_1 : qJ 122 1 (.ifCond .ne 19) 4 (19) 20 := by decide +kernel
theorem q122_4 : qD 122 4 (.aload_n 1) 1 5 ∧ ((1 : Fin 4) : Nat) = 1 := by decide +kernel
theorem q122_5 : qG 122 5 182 8 7 0 240 2 := by decide +kernel
theorem q122_8 : qD 122 8 (.bipush 28) 2 10 ∧ (Int8.ofInt (28)).toInt32 = (28 : Int32) := by decide +kernel
theorem q122_10 : qD 122 10 (.dup2) 1 11 := by decide +kernel
theorem q122_11 : qD 122 11 (.iaload) 1 12 := by decide +kernel
theorem q122_12 : qD 122 12 (.iconst 1) 1 13 ∧ Int32.ofInt (1) = (1 : Int32) := by decide +kernel
theorem q122_13 : qD 122 13 (.iload_n 3) 1 14 ∧ ((3 : Fin 4) : Nat) = 3 := by decide +kernel
theorem q122_14 : qD 122 14 (.ishl) 1 15 := by decide +kernel
theorem q122_15 : qD 122 15 (.ior) 1 16 := by decide +kernel
theorem q122_16 : qD 122 16 (.iastore) 1 17 := by decide +kernel
theorem q122_17 : qJ 122 17 (.goto 129) 20 (129) 146 := by decide +kernel
theorem q122_20 : qD 122 20 (.iload_n 2) 1 21 ∧ ((2 : Fin 4) : Nat) = 2 := by decide +kernel
theorem q122_21 : qD 122 21 (.iconst 1) 1 22 ∧ Int32.ofInt (1) = (1 : Int32) := by decide +kernel
theorem q122_22 : qJ 122 22 (.if_icmp .ne 20) 25 (20) 42 := by decide +kernel
theorem q122_25 : qD 122 25 (.aload_n 1) 1 26 ∧ ((1 : Fin 4) : Nat) = 1 := by decide +kernel
theorem q122_26 : qD 122 26 (.iload_n 3) 1 27 ∧ ((3 : Fin 4) : Nat) = 3 := by decide +kernel
theorem q122_27 : qD 122 27 (.iload 4) 2 29 := by decide +kernel
theorem q122_29 : qD 122 29 (.aload_n 0) 1 30 ∧ ((0 : Fin 4) : Nat) = 0 := by decide +kernel
theorem q122_30 : qG 122 30 19 33 10 1 325 2 := by decide +kernel
theorem q122_33 : qG 122 33 148 36 3 3 179 0 := by decide +kernel
theorem q122_36 : qD 122 36 (.invokevirtual 282) 3 39 ∧ qI 122 282 58 804 := by decide +kernel
theorem q122_39 : qJ 122 39 (.goto 107) 42 (107) 146 := by decide +kernel
theorem q122_42 : qD 122 42 (.iload_n 2) 1 43 ∧ ((2 : Fin 4) : Nat) = 2 := by decide +kernel
theorem q122_43 : qD 122 43 (.iconst 2) 1 44 ∧ Int32.ofInt (2) = (2 : Int32) := by decide +kernel
theorem q122_44 : qJ 122 44 (.if_icmp .ne 59) 47 (59) 103 := by decide +kernel
theorem q122_47 : qD 122 47 (.aload_n 0) 1 48 ∧ ((0 : Fin 4) : Nat) = 0 := by decide +kernel
theorem q122_48 : qG 122 48 77 51 10 16 340 2 := by decide +kernel
theorem q122_51 : qD 122 51 (.aload_n 0) 1 52 ∧ ((0 : Fin 4) : Nat) = 0 := by decide +kernel
theorem q122_52 : qG 122 52 19 55 10 1 325 2 := by decide +kernel
theorem q122_55 : qD 122 55 (.aload_n 1) 1 56 ∧ ((1 : Fin 4) : Nat) = 1 := by decide +kernel
theorem q122_56 : qD 122 56 (.aload_n 0) 1 57 ∧ ((0 : Fin 4) : Nat) = 0 := by decide +kernel
theorem q122_57 : qD 122 57 (.invokevirtual 286) 3 60 ∧ qI 122 286 108 812 := by decide +kernel
theorem q122_60 : qD 122 60 (.aload_n 0) 1 61 ∧ ((0 : Fin 4) : Nat) = 0 := by decide +kernel
theorem q122_61 : qG 122 61 19 64 10 1 325 2 := by decide +kernel
theorem q122_64 : qD 122 64 (.invokevirtual 290) 3 67 ∧ qI 122 290 19 816 := by decide +kernel
theorem q122_67 : qD 122 67 (.iconst 0) 1 68 ∧ Int32.ofInt (0) = (0 : Int32) := by decide +kernel
theorem q122_68 : qD 122 68 (.invokevirtual 293) 3 71 ∧ qI 122 293 31 820 := by decide +kernel
theorem q122_71 : qD 122 71 (.istore 5) 2 73 ∧ 5 < mL 122 := by decide +kernel
theorem q122_73 : qD 122 73 (.aload_n 1) 1 74 ∧ ((1 : Fin 4) : Nat) = 1 := by decide +kernel
theorem q122_74 : qD 122 74 (.aload_n 1) 1 75 ∧ ((1 : Fin 4) : Nat) = 1 := by decide +kernel
theorem q122_75 : qG 122 75 182 78 7 0 240 2 := by decide +kernel
theorem q122_78 : qD 122 78 (.iconst 0) 1 79 ∧ Int32.ofInt (0) = (0 : Int32) := by decide +kernel
theorem q122_79 : qD 122 79 (.aload_n 0) 1 80 ∧ ((0 : Fin 4) : Nat) = 0 := by decide +kernel
theorem q122_80 : qG 122 80 19 83 10 1 325 2 := by decide +kernel
theorem q122_83 : qD 122 83 (.invokevirtual 230) 3 86 ∧ qI 122 230 16 760 := by decide +kernel
theorem q122_86 : qD 122 86 (.iadd) 1 87 := by decide +kernel
theorem q122_87 : qD 122 87 (.iaload) 1 88 := by decide +kernel
theorem q122_88 : qD 122 88 (.iload 5) 2 90 := by decide +kernel
theorem q122_90 : qD 122 90 (.aload_n 0) 1 91 ∧ ((0 : Fin 4) : Nat) = 0 := by decide +kernel
theorem q122_91 : qG 122 91 19 94 10 1 325 2 := by decide +kernel
theorem q122_94 : qG 122 94 148 97 3 3 179 0 := by decide +kernel
theorem q122_97 : qD 122 97 (.invokevirtual 297) 3 100 ∧ qI 122 297 62 893 := by decide +kernel
theorem q122_100 : qJ 122 100 (.goto 46) 103 (46) 146 := by decide +kernel
theorem q122_103 : qD 122 103 (.iload_n 2) 1 104 ∧ ((2 : Fin 4) : Nat) = 2 := by decide +kernel
theorem q122_104 : qD 122 104 (.iconst 3) 1 105 ∧ Int32.ofInt (3) = (3 : Int32) := by decide +kernel
theorem q122_105 : qJ 122 105 (.if_icmp .ne 37) 108 (37) 142 := by decide +kernel
theorem q122_108 : qD 122 108 (.aload_n 1) 1 109 ∧ ((1 : Fin 4) : Nat) = 1 := by decide +kernel
theorem q122_109 : qG 122 109 182 112 7 0 240 2 := by decide +kernel
theorem q122_112 : qD 122 112 (.bipush 7) 2 114 ∧ (Int8.ofInt (7)).toInt32 = (7 : Int32) := by decide +kernel
theorem q122_114 : qD 122 114 (.aload_n 1) 1 115 ∧ ((1 : Fin 4) : Nat) = 1 := by decide +kernel
theorem q122_115 : qD 122 115 (.aload_n 0) 1 116 ∧ ((0 : Fin 4) : Nat) = 0 := by decide +kernel
theorem q122_116 : qG 122 116 19 119 10 1 325 2 := by decide +kernel
theorem q122_119 : qG 122 119 148 122 3 3 179 0 := by decide +kernel
theorem q122_122 : qD 122 122 (.invokevirtual 246) 3 125 ∧ qI 122 246 59 786 := by decide +kernel
theorem q122_125 : qD 122 125 (.iadd) 1 126 := by decide +kernel
theorem q122_126 : qD 122 126 (.dup2) 1 127 := by decide +kernel
theorem q122_127 : qD 122 127 (.iaload) 1 128 := by decide +kernel
theorem q122_128 : qD 122 128 (.iconst 2) 1 129 ∧ Int32.ofInt (2) = (2 : Int32) := by decide +kernel
theorem q122_129 : qD 122 129 (.isub) 1 130 := by decide +kernel
theorem q122_130 : qD 122 130 (.iastore) 1 131 := by decide +kernel
theorem q122_131 : qD 122 131 (.aload_n 1) 1 132 ∧ ((1 : Fin 4) : Nat) = 1 := by decide +kernel
theorem q122_132 : qG 122 132 182 135 7 0 240 2 := by decide +kernel
theorem q122_135 : qD 122 135 (.bipush 31) 2 137 ∧ (Int8.ofInt (31)).toInt32 = (31 : Int32) := by decide +kernel
theorem q122_137 : qD 122 137 (.iconst 0) 1 138 ∧ Int32.ofInt (0) = (0 : Int32) := by decide +kernel
theorem q122_138 : qD 122 138 (.iastore) 1 139 := by decide +kernel
theorem q122_139 : qJ 122 139 (.goto 7) 142 (7) 146 := by decide +kernel
theorem q122_142 : qD 122 142 (.aload_n 1) 1 143 ∧ ((1 : Fin 4) : Nat) = 1 := by decide +kernel
theorem q122_143 : qD 122 143 (.invokevirtual 300) 3 146 ∧ qI 122 300 63 897 := by decide +kernel
theorem q122_146 : qD 122 146 (.return_) 1 147 ∧ mR 122 = none := by decide +kernel
theorem q123_0 : qD 123 0 (.aload_n 0) 1 1 ∧ ((0 : Fin 4) : Nat) = 0 := by decide +kernel
theorem q123_1 : qG 123 1 70 4 10 15 339 2 := by decide +kernel
theorem q123_4 : qD 123 4 (.aload_n 0) 1 5 ∧ ((0 : Fin 4) : Nat) = 0 := by decide +kernel
theorem q123_5 : qG 123 5 47 8 10 9 333 2 := by decide +kernel
theorem q123_8 : qD 123 8 (.invokevirtual 242) 3 11 ∧ qI 123 242 2 790 := by decide +kernel
theorem q123_11 : qD 123 11 (.iconst 0) 1 12 ∧ Int32.ofInt (0) = (0 : Int32) := by decide +kernel
theorem q123_12 : qD 123 12 (.istore_n 1) 1 13 ∧ ((1 : Fin 4) : Nat) = 1 ∧ 1 < mL 123 := by decide +kernel
theorem q123_13 : qD 123 13 (.iload_n 1) 1 14 ∧ ((1 : Fin 4) : Nat) = 1 := by decide +kernel
theorem q123_14 : qD 123 14 (.aload_n 0) 1 15 ∧ ((0 : Fin 4) : Nat) = 0 := by decide +kernel
theorem q123_15 : qG 123 15 19 18 10 1 325 2 := by decide +kernel
theorem q123_18 : qG 123 18 214 21 3 4 183 0 := by decide +kernel
theorem q123_21 : qJ 123 21 (.if_icmp .ge 46) 24 (46) 67 := by decide +kernel
theorem q123_24 : qD 123 24 (.aload_n 0) 1 25 ∧ ((0 : Fin 4) : Nat) = 0 := by decide +kernel
theorem q123_25 : qG 123 25 47 28 10 9 333 2 := by decide +kernel
theorem q123_28 : qD 123 28 (.iload_n 1) 1 29 ∧ ((1 : Fin 4) : Nat) = 1 := by decide +kernel
theorem q123_29 : qD 123 29 (.invokevirtual 202) 3 32 ∧ qI 123 202 56 727 := by decide +kernel
theorem q123_32 : qJ 123 32 (.ifCond .ne 29) 35 (29) 61 := by decide +kernel
theorem q123_35 : qD 123 35 (.aload_n 0) 1 36 ∧ ((0 : Fin 4) : Nat) = 0 := by decide +kernel
theorem q123_36 : qD 123 36 (.invokevirtual 303) 3 39 ∧ qI 123 303 124 933 := by decide +kernel
theorem q123_39 : qD 123 39 (.aload_n 0) 1 40 ∧ ((0 : Fin 4) : Nat) = 0 := by decide +kernel
theorem q123_40 : qG 123 40 19 43 10 1 325 2 := by decide +kernel
theorem q123_43 : qD 123 43 (.iload_n 1) 1 44 ∧ ((1 : Fin 4) : Nat) = 1 := by decide +kernel
theorem q123_44 : qD 123 44 (.invokevirtual 199) 3 47 ∧ qI 123 199 26 723 := by decide +kernel
theorem q123_47 : qJ 123 47 (.if_icmp .ge 14) 50 (14) 61 := by decide +kernel
theorem q123_50 : qD 123 50 (.aload_n 0) 1 51 ∧ ((0 : Fin 4) : Nat) = 0 := by decide +kernel
theorem q123_51 : qD 123 51 (.aload_n 0) 1 52 ∧ ((0 : Fin 4) : Nat) = 0 := by decide +kernel
theorem q123_52 : qG 123 52 47 55 10 9 333 2 := by decide +kernel
theorem q123_55 : qD 123 55 (.iconst 0) 1 56 ∧ Int32.ofInt (0) = (0 : Int32) := by decide +kernel
theorem q123_56 : qD 123 56 (.iload_n 1) 1 57 ∧ ((1 : Fin 4) : Nat) = 1 := by decide +kernel
theorem q123_57 : qD 123 57 (.iconst (-1)) 1 58 ∧ Int32.ofInt (-1) = (-1 : Int32) := by decide +kernel
theorem q123_58 : qD 123 58 (.invokevirtual 275) 3 61 ∧ qI 123 275 122 800 := by decide +kernel
theorem q123_61 : qD 123 61 (.iinc 1 1) 3 64 ∧ 1 < mL 123 ∧ Int32.ofInt (1) = (1 : Int32) := by decide +kernel
theorem q123_64 : qJ 123 64 (.goto (-51)) 67 (-51) 13 := by decide +kernel
theorem q123_67 : qD 123 67 (.aload_n 0) 1 68 ∧ ((0 : Fin 4) : Nat) = 0 := by decide +kernel
theorem q123_68 : qD 123 68 (.aload_n 0) 1 69 ∧ ((0 : Fin 4) : Nat) = 0 := by decide +kernel
theorem q123_69 : qG 123 69 47 72 10 9 333 2 := by decide +kernel
theorem q123_72 : qD 123 72 (.iconst 2) 1 73 ∧ Int32.ofInt (2) = (2 : Int32) := by decide +kernel
theorem q123_73 : qD 123 73 (.iconst (-1)) 1 74 ∧ Int32.ofInt (-1) = (-1 : Int32) := by decide +kernel
theorem q123_74 : qD 123 74 (.iconst (-1)) 1 75 ∧ Int32.ofInt (-1) = (-1 : Int32) := by decide +kernel
theorem q123_75 : qD 123 75 (.invokevirtual 268) 3 78 ∧ qI 123 268 121 774 := by decide +kernel
theorem q123_78 : qJ 123 78 (.ifCond .eq 14) 81 (14) 92 := by decide +kernel
theorem q123_81 : qD 123 81 (.aload_n 0) 1 82 ∧ ((0 : Fin 4) : Nat) = 0 := by decide +kernel
theorem q123_82 : qD 123 82 (.aload_n 0) 1 83 ∧ ((0 : Fin 4) : Nat) = 0 := by decide +kernel
theorem q123_83 : qG 123 83 47 86 10 9 333 2 := by decide +kernel
theorem q123_86 : qD 123 86 (.iconst 2) 1 87 ∧ Int32.ofInt (2) = (2 : Int32) := by decide +kernel
theorem q123_87 : qD 123 87 (.iconst (-1)) 1 88 ∧ Int32.ofInt (-1) = (-1 : Int32) := by decide +kernel
theorem q123_88 : qD 123 88 (.iconst (-1)) 1 89 ∧ Int32.ofInt (-1) = (-1 : Int32) := by decide +kernel
theorem q123_89 : qD 123 89 (.invokevirtual 275) 3 92 ∧ qI 123 275 122 800 := by decide +kernel
theorem q123_92 : qD 123 92 (.aload_n 0) 1 93 ∧ ((0 : Fin 4) : Nat) = 0 := by decide +kernel
theorem q123_93 : qD 123 93 (.invokevirtual 303) 3 96 ∧ qI 123 303 124 933 := by decide +kernel
theorem q123_96 : qD 123 96 (.aload_n 0) 1 97 ∧ ((0 : Fin 4) : Nat) = 0 := by decide +kernel
theorem q123_97 : qG 123 97 205 100 10 8 332 0 := by decide +kernel
theorem q123_100 : qJ 123 100 (.if_icmp .ge 24) 103 (24) 124 := by decide +kernel
theorem q123_103 : qD 123 103 (.aload_n 0) 1 104 ∧ ((0 : Fin 4) : Nat) = 0 := by decide +kernel
theorem q123_104 : qD 123 104 (.aload_n 0) 1 105 ∧ ((0 : Fin 4) : Nat) = 0 := by decide +kernel
theorem q123_105 : qG 123 105 47 108 10 9 333 2 := by decide +kernel
theorem q123_108 : qD 123 108 (.iconst 1) 1 109 ∧ Int32.ofInt (1) = (1 : Int32) := by decide +kernel
theorem q123_109 : qD 123 109 (.aload_n 0) 1 110 ∧ ((0 : Fin 4) : Nat) = 0 := by decide +kernel
theorem q123_110 : qD 123 110 (.invokevirtual 217) 3 113 ∧ qI 123 217 106 756 := by decide +kernel
theorem q123_113 : qD 123 113 (.aload_n 0) 1 114 ∧ ((0 : Fin 4) : Nat) = 0 := by decide +kernel
theorem q123_114 : qD 123 114 (.aload_n 0) 1 115 ∧ ((0 : Fin 4) : Nat) = 0 := by decide +kernel
theorem q123_115 : qD 123 115 (.invokevirtual 217) 3 118 ∧ qI 123 217 106 756 := by decide +kernel
theorem q123_118 : qD 123 118 (.invokevirtual 306) 3 121 ∧ qI 123 306 125 940 := by decide +kernel
theorem q123_121 : qD 123 121 (.invokevirtual 275) 3 124 ∧ qI 123 275 122 800 := by decide +kernel
theorem q123_124 : qD 123 124 (.aload_n 0) 1 125 ∧ ((0 : Fin 4) : Nat) = 0 := by decide +kernel
theorem q123_125 : qG 123 125 60 128 10 13 337 2 := by decide +kernel
theorem q123_128 : qD 123 128 (.aload_n 0) 1 129 ∧ ((0 : Fin 4) : Nat) = 0 := by decide +kernel
theorem q123_129 : qG 123 129 47 132 10 9 333 2 := by decide +kernel
theorem q123_132 : qD 123 132 (.invokevirtual 272) 3 135 ∧ qI 123 272 9 796 := by decide +kernel
theorem q123_135 : qD 123 135 (.aload_n 0) 1 136 ∧ ((0 : Fin 4) : Nat) = 0 := by decide +kernel
theorem q123_136 : qD 123 136 (.aload_n 0) 1 137 ∧ ((0 : Fin 4) : Nat) = 0 := by decide +kernel
theorem q123_137 : qG 123 137 47 140 10 9 333 2 := by decide +kernel
theorem q123_140 : qD 123 140 (.iconst 4) 1 141 ∧ Int32.ofInt (4) = (4 : Int32) := by decide +kernel
theorem q123_141 : qD 123 141 (.iconst (-1)) 1 142 ∧ Int32.ofInt (-1) = (-1 : Int32) := by decide +kernel
theorem q123_142 : qD 123 142 (.iconst (-1)) 1 143 ∧ Int32.ofInt (-1) = (-1 : Int32) := by decide +kernel
theorem q123_143 : qD 123 143 (.invokevirtual 275) 3 146 ∧ qI 123 275 122 800 := by decide +kernel
theorem q123_146 : qD 123 146 (.return_) 1 147 ∧ mR 123 = none := by decide +kernel
theorem q124_0 : qD 124 0 (.aload_n 0) 1 1 ∧ ((0 : Fin 4) : Nat) = 0 := by decide +kernel
theorem q124_1 : qD 124 1 (.aload_n 0) 1 2 ∧ ((0 : Fin 4) : Nat) = 0 := by decide +kernel
theorem q124_2 : qG 124 2 252 5 10 19 343 1 := by decide +kernel
theorem q124_5 : qD 124 5 (.ldc2_w 309) 3 8 ∧ inG 937 (.constantLong (mN 124).cls 309 (6364136223846793005)) := by decide +kernel
theorem q124_8 : qD 124 8 (.lmul) 1 9 := by decide +kernel
theorem q124_9 : qD 124 9 (.ldc2_w 311) 3 12 ∧ inG 938 (.constantLong (mN 124).cls 311 (1442695040888963407)) := by decide +kernel
theorem q124_12 : qD 124 12 (.ladd) 1 13 := by decide +kernel
theorem q124_13 : qP 124 13 252 16 10 19 343 1 := by decide +kernel
theorem q124_16 : qD 124 16 (.aload_n 0) 1 17 ∧ ((0 : Fin 4) : Nat) = 0 := by decide +kernel
theorem q124_17 : qG 124 17 252 20 10 19 343 1 := by decide +kernel
theorem q124_20 : qD 124 20 (.bipush 33) 2 22 ∧ (Int8.ofInt (33)).toInt32 = (33 : Int32) := by decide +kernel
theorem q124_22 : qD 124 22 (.lushr) 1 23 := by decide +kernel
theorem q124_23 : qD 124 23 (.ldc2_w 313) 3 26 ∧ inG 939 (.constantLong (mN 124).cls 313 (10)) := by decide +kernel
theorem q124_26 : qD 124 26 (.lrem) 1 27 := by decide +kernel
theorem q124_27 : qD 124 27 (.l2i) 1 28 := by decide +kernel
theorem q124_28 : qD 124 28 (.ireturn) 1 29 ∧ mR 124 = some .int := by decide +kernel
theorem q125_0 : qD 125 0 (.iload_n 1) 1 1 ∧ ((1 : Fin 4) : Nat) = 1 := by decide +kernel
theorem q125_1 : qD 125 1 (.istore_n 2) 1 2 ∧ ((2 : Fin 4) : Nat) = 2 ∧ 2 < mL 125 := by decide +kernel
theorem q125_2 : qD 125 2 (.iconst 0) 1 3 ∧ Int32.ofInt (0) = (0 : Int32) := by decide +kernel
theorem q125_3 : qD 125 3 (.istore_n 3) 1 4 ∧ ((3 : Fin 4) : Nat) = 3 ∧ 3 < mL 125 := by decide +kernel
theorem q125_4 : qD 125 4 (.iload_n 3) 1 5 ∧ ((3 : Fin 4) : Nat) = 3 := by decide +kernel
theorem q125_5 : qD 125 5 (.aload_n 0) 1 6 ∧ ((0 : Fin 4) : Nat) = 0 := by decide +kernel
theorem q125_6 : qG 125 6 19 9 10 1 325 2 := by decide +kernel
theorem q125_9 : qG 125 9 148 12 3 3 179 0 := by decide +kernel
theorem q125_12 : qJ 125 12 (.if_icmp .ge 40) 15 (40) 52 := by decide +kernel
theorem q125_15 : qD 125 15 (.iload_n 3) 1 16 ∧ ((3 : Fin 4) : Nat) = 3 := by decide +kernel
theorem q125_16 : qD 125 16 (.iload_n 1) 1 17 ∧ ((1 : Fin 4) : Nat) = 1 := by decide +kernel
theorem q125_17 : qJ 125 17 (.if_icmp .eq 29) 20 (29) 46 := by decide +kernel
theorem q125_20 : qD 125 20 (.iload_n 2) 1 21 ∧ ((2 : Fin 4) : Nat) = 2 := by decide +kernel
theorem q125_21 : qD 125 21 (.iload_n 1) 1 22 ∧ ((1 : Fin 4) : Nat) = 1 := by decide +kernel
theorem q125_22 : qJ 125 22 (.if_icmp .eq 22) 25 (22) 44 := by decide +kernel
theorem q125_25 : qD 125 25 (.aload_n 0) 1 26 ∧ ((0 : Fin 4) : Nat) = 0 := by decide +kernel
theorem q125_26 : qG 125 26 19 29 10 1 325 2 := by decide +kernel
theorem q125_29 : qD 125 29 (.iload_n 3) 1 30 ∧ ((3 : Fin 4) : Nat) = 3 := by decide +kernel
theorem q125_30 : qD 125 30 (.invokevirtual 173) 3 33 ∧ qI 125 173 21 944 := by decide +kernel
theorem q125_33 : qD 125 33 (.aload_n 0) 1 34 ∧ ((0 : Fin 4) : Nat) = 0 := by decide +kernel
theorem q125_34 : qG 125 34 19 37 10 1 325 2 := by decide +kernel
theorem q125_37 : qD 125 37 (.iload_n 2) 1 38 ∧ ((2 : Fin 4) : Nat) = 2 := by decide +kernel
theorem q125_38 : qD 125 38 (.invokevirtual 173) 3 41 ∧ qI 125 173 21 944 := by decide +kernel
theorem q125_41 : qJ 125 41 (.if_icmp .le 5) 44 (5) 46 := by decide +kernel
theorem q125_44 : qD 125 44 (.iload_n 3) 1 45 ∧ ((3 : Fin 4) : Nat) = 3 := by decide +kernel
theorem q125_45 : qD 125 45 (.istore_n 2) 1 46 ∧ ((2 : Fin 4) : Nat) = 2 ∧ 2 < mL 125 := by decide +kernel
theorem q125_46 : qD 125 46 (.iinc 3 1) 3 49 ∧ 3 < mL 125 ∧ Int32.ofInt (1) = (1 : Int32) := by decide +kernel
theorem q125_49 : qJ 125 49 (.goto (-45)) 52 (-45) 4 := by decide +kernel
theorem q125_52 : qD 125 52 (.iload_n 2) 1 53 ∧ ((2 : Fin 4) : Nat) = 2 := by decide +kernel
theorem q125_53 : qD 125 53 (.ireturn) 1 54 ∧ mR 125 = some .int := by decide +kernel
theorem q126_0 : qD 126 0 (.aload_n 0) 1 1 ∧ ((0 : Fin 4) : Nat) = 0 := by decide +kernel
theorem q126_1 : qD 126 1 (.iload_n 1) 1 2 ∧ ((1 : Fin 4) : Nat) = 1 := by decide +kernel
theorem q126_2 : qD 126 2 (.invokevirtual 315) 3 5 ∧ qI 126 315 129 975 := by decide +kernel
theorem q126_5 : qJ 126 5 (.ifCond .eq 29) 8 (29) 34 := by decide +kernel
theorem q126_8 : qD 126 8 (.iload_n 2) 1 9 ∧ ((2 : Fin 4) : Nat) = 2 := by decide +kernel
theorem q126_9 : qJ 126 9 (.ifCond .lt 25) 12 (25) 34 := by decide +kernel
theorem q126_12 : qD 126 12 (.iload_n 2) 1 13 ∧ ((2 : Fin 4) : Nat) = 2 := by decide +kernel
theorem q126_13 : qD 126 13 (.aload_n 0) 1 14 ∧ ((0 : Fin 4) : Nat) = 0 := by decide +kernel
theorem q126_14 : qG 126 14 34 17 10 6 330 2 := by decide +kernel
theorem q126_17 : qD 126 17 (.iload_n 1) 1 18 ∧ ((1 : Fin 4) : Nat) = 1 := by decide +kernel
theorem q126_18 : qD 126 18 (.aaload) 1 19 := by decide +kernel
theorem q126_19 : qG 126 19 318 22 6 1 224 0 := by decide +kernel
theorem q126_22 : qJ 126 22 (.if_icmp .ge 12) 25 (12) 34 := by decide +kernel
theorem q126_25 : qD 126 25 (.iload_n 3) 1 26 ∧ ((3 : Fin 4) : Nat) = 3 := by decide +kernel
theorem q126_26 : qJ 126 26 (.ifCond .lt 8) 29 (8) 34 := by decide +kernel
theorem q126_29 : qD 126 29 (.iload_n 3) 1 30 ∧ ((3 : Fin 4) : Nat) = 3 := by decide +kernel
theorem q126_30 : qD 126 30 (.iconst 3) 1 31 ∧ Int32.ofInt (3) = (3 : Int32) := by decide +kernel
theorem q126_31 : qJ 126 31 (.if_icmp .lt 6) 34 (6) 37 := by decide +kernel
theorem q126_34 : qD 126 34 (.ldc 229) 2 36 ∧ inG 765 (.constant (mN 126).cls 229 (-1000000)) := by decide +kernel
theorem q126_36 : qD 126 36 (.ireturn) 1 37 ∧ mR 126 = some .int := by decide +kernel
theorem q126_37 : qD 126 37 (.aload_n 0) 1 38 ∧ ((0 : Fin 4) : Nat) = 0 := by decide +kernel
theorem q126_38 : qG 126 38 34 41 10 6 330 2 := by decide +kernel
theorem q126_41 : qD 126 41 (.iload_n 1) 1 42 ∧ ((1 : Fin 4) : Nat) = 1 := by decide +kernel
theorem q126_42 : qD 126 42 (.aaload) 1 43 := by decide +kernel
theorem q126_43 : qD 126 43 (.iload_n 2) 1 44 ∧ ((2 : Fin 4) : Nat) = 2 := by decide +kernel
theorem q126_44 : qD 126 44 (.iload_n 3) 1 45 ∧ ((3 : Fin 4) : Nat) = 3 := by decide +kernel
theorem q126_45 : qD 126 45 (.invokevirtual 321) 3 48 ∧ qI 126 321 52 979 := by decide +kernel
theorem q126_48 : qD 126 48 (.ireturn) 1 49 ∧ mR 126 = some .int := by decide +kernel
theorem q127_0 : qD 127 0 (.aload_n 0) 1 1 ∧ ((0 : Fin 4) : Nat) = 0 := by decide +kernel
theorem q127_1 : qD 127 1 (.iload_n 1) 1 2 ∧ ((1 : Fin 4) : Nat) = 1 := by decide +kernel
theorem q127_2 : qD 127 2 (.invokevirtual 315) 3 5 ∧ qI 127 315 129 975 := by decide +kernel
theorem q127_5 : qJ 127 5 (.ifCond .eq 19) 8 (19) 24 := by decide +kernel
theorem q127_8 : qD 127 8 (.aload_n 0) 1 9 ∧ ((0 : Fin 4) : Nat) = 0 := by decide +kernel
theorem q127_9 : qD 127 9 (.invokevirtual 151) 3 12 ∧ qI 127 151 102 695 := by decide +kernel
theorem q127_12 : qJ 127 12 (.ifCond .eq 12) 15 (12) 24 := by decide +kernel
theorem q127_15 : qD 127 15 (.iload_n 2) 1 16 ∧ ((2 : Fin 4) : Nat) = 2 := by decide +kernel
theorem q127_16 : qJ 127 16 (.ifCond .lt 8) 19 (8) 24 := by decide +kernel
theorem q127_19 : qD 127 19 (.iload_n 2) 1 20 ∧ ((2 : Fin 4) : Nat) = 2 := by decide +kernel
theorem q127_20 : qD 127 20 (.iconst 1) 1 21 ∧ Int32.ofInt (1) = (1 : Int32) := by decide +kernel
theorem q127_21 : qJ 127 21 (.if_icmp .le 6) 24 (6) 27 := by decide +kernel
theorem q127_24 : qD 127 24 (.ldc 229) 2 26 ∧ inG 765 (.constant (mN 127).cls 229 (-1000000)) := by decide +kernel
theorem q127_26 : qD 127 26 (.ireturn) 1 27 ∧ mR 127 = some .int := by decide +kernel
theorem q127_27 : qD 127 27 (.aload_n 0) 1 28 ∧ ((0 : Fin 4) : Nat) = 0 := by decide +kernel
theorem q127_28 : qG 127 28 51 31 10 10 334 2 := by decide +kernel
theorem q127_31 : qD 127 31 (.aload_n 0) 1 32 ∧ ((0 : Fin 4) : Nat) = 0 := by decide +kernel
theorem q127_32 : qG 127 32 47 35 10 9 333 2 := by decide +kernel
theorem q127_35 : qD 127 35 (.invokevirtual 262) 3 38 ∧ qI 127 262 55 957 := by decide +kernel
theorem q127_38 : qD 127 38 (.iconst 0) 1 39 ∧ Int32.ofInt (0) = (0 : Int32) := by decide +kernel
theorem q127_39 : qD 127 39 (.istore_n 3) 1 40 ∧ ((3 : Fin 4) : Nat) = 3 ∧ 3 < mL 127 := by decide +kernel
theorem q127_40 : qD 127 40 (.iload_n 3) 1 41 ∧ ((3 : Fin 4) : Nat) = 3 := by decide +kernel
theorem q127_41 : qD 127 41 (.aload_n 0) 1 42 ∧ ((0 : Fin 4) : Nat) = 0 := by decide +kernel
theorem q127_42 : qG 127 42 34 45 10 6 330 2 := by decide +kernel
theorem q127_45 : qD 127 45 (.iload_n 1) 1 46 ∧ ((1 : Fin 4) : Nat) = 1 := by decide +kernel
theorem q127_46 : qD 127 46 (.aaload) 1 47 := by decide +kernel
theorem q127_47 : qG 127 47 318 50 6 1 224 0 := by decide +kernel
theorem q127_50 : qJ 127 50 (.if_icmp .ge 23) 53 (23) 73 := by decide +kernel
theorem q127_53 : qD 127 53 (.aload_n 0) 1 54 ∧ ((0 : Fin 4) : Nat) = 0 := by decide +kernel
theorem q127_54 : qD 127 54 (.aload_n 0) 1 55 ∧ ((0 : Fin 4) : Nat) = 0 := by decide +kernel
theorem q127_55 : qG 127 55 34 58 10 6 330 2 := by decide +kernel
theorem q127_58 : qD 127 58 (.iload_n 1) 1 59 ∧ ((1 : Fin 4) : Nat) = 1 := by decide +kernel
theorem q127_59 : qD 127 59 (.aaload) 1 60 := by decide +kernel
theorem q127_60 : qD 127 60 (.iload_n 3) 1 61 ∧ ((3 : Fin 4) : Nat) = 3 := by decide +kernel
theorem q127_61 : qD 127 61 (.invokevirtual 324) 3 64 ∧ qI 127 324 130 987 := by decide +kernel
theorem q127_64 : qJ 127 64 (.ifCond .eq 9) 67 (9) 73 := by decide +kernel
theorem q127_67 : qD 127 67 (.iinc 3 1) 3 70 ∧ 3 < mL 127 ∧ Int32.ofInt (1) = (1 : Int32) := by decide +kernel
theorem q127_70 : qJ 127 70 (.goto (-30)) 73 (-30) 40 := by decide +kernel
theorem q127_73 : qD 127 73 (.iload_n 2) 1 74 ∧ ((2 : Fin 4) : Nat) = 2 := by decide +kernel
theorem q127_74 : qD 127 74 (.iconst 1) 1 75 ∧ Int32.ofInt (1) = (1 : Int32) := by decide +kernel
theorem q127_75 : qJ 127 75 (.if_icmp .ne 32) 78 (32) 107 := by decide +kernel
theorem q127_78 : qD 127 78 (.aload_n 0) 1 79 ∧ ((0 : Fin 4) : Nat) = 0 := by decide +kernel
theorem q127_79 : qG 127 79 51 82 10 10 334 2 := by decide +kernel
theorem q127_82 : qG 127 82 182 85 7 0 240 2 := by decide +kernel
theorem q127_85 : qD 127 85 (.bipush 7) 2 87 ∧ (Int8.ofInt (7)).toInt32 = (7 : Int32) := by decide +kernel
theorem q127_87 : qD 127 87 (.aload_n 0) 1 88 ∧ ((0 : Fin 4) : Nat) = 0 := by decide +kernel
theorem q127_88 : qG 127 88 51 91 10 10 334 2 := by decide +kernel
theorem q127_91 : qG 127 91 182 94 7 0 240 2 := by decide +kernel
theorem q127_94 : qD 127 94 (.iconst 0) 1 95 ∧ Int32.ofInt (0) = (0 : Int32) := by decide +kernel
theorem q127_95 : qD 127 95 (.aload_n 0) 1 96 ∧ ((0 : Fin 4) : Nat) = 0 := by decide +kernel
theorem q127_96 : qG 127 96 19 99 10 1 325 2 := by decide +kernel
theorem q127_99 : qD 127 99 (.invokevirtual 230) 3 102 ∧ qI 127 230 16 760 := by decide +kernel
theorem q127_102 : qD 127 102 (.iadd) 1 103 := by decide +kernel
theorem q127_103 : qD 127 103 (.iaload) 1 104 := by decide +kernel
theorem q127_104 : qD 127 104 (.iadd) 1 105 := by decide +kernel
theorem q127_105 : qD 127 105 (.iaload) 1 106 := by decide +kernel
theorem q127_106 : qD 127 106 (.ireturn) 1 107 ∧ mR 127 = some .int := by decide +kernel
theorem q127_107 : qD 127 107 (.iload_n 3) 1 108 ∧ ((3 : Fin 4) : Nat) = 3 := by decide +kernel
theorem q127_108 : qD 127 108 (.aload_n 0) 1 109 ∧ ((0 : Fin 4) : Nat) = 0 := by decide +kernel
theorem q127_109 : qG 127 109 34 112 10 6 330 2 := by decide +kernel
theorem q127_112 : qD 127 112 (.iload_n 1) 1 113 ∧ ((1 : Fin 4) : Nat) = 1 := by decide +kernel
theorem q127_113 : qD 127 113 (.aaload) 1 114 := by decide +kernel
theorem q127_114 : qG 127 114 318 117 6 1 224 0 := by decide +kernel
theorem q127_117 : qJ 127 117 (.if_icmp .ne 7) 120 (7) 124 := by decide +kernel
theorem q127_120 : qD 127 120 (.iconst (-1)) 1 121 ∧ Int32.ofInt (-1) = (-1 : Int32) := by decide +kernel
theorem q127_121 : qJ 127 121 (.goto 4) 124 (4) 125 := by decide +kernel
theorem q127_124 : qD 127 124 (.iload_n 3) 1 125 ∧ ((3 : Fin 4) : Nat) = 3 := by decide +kernel
theorem q127_125 : qD 127 125 (.ireturn) 1 126 ∧ mR 127 = some .int := by decide +kernel
theorem q128_0 : qD 128 0 (.aload_n 0) 1 1 ∧ ((0 : Fin 4) : Nat) = 0 := by decide +kernel
theorem q128_1 : qD 128 1 (.iload_n 1) 1 2 ∧ ((1 : Fin 4) : Nat) = 1 := by decide +kernel
theorem q128_2 : qD 128 2 (.invokevirtual 315) 3 5 ∧ qI 128 315 129 975 := by decide +kernel
theorem q128_5 : qJ 128 5 (.ifCond .eq 10) 8 (10) 15 := by decide +kernel
theorem q128_8 : qD 128 8 (.aload_n 0) 1 9 ∧ ((0 : Fin 4) : Nat) = 0 := by decide +kernel
theorem q128_9 : qD 128 9 (.invokevirtual 151) 3 12 ∧ qI 128 151 102 695 := by decide +kernel
theorem q128_12 : qJ 128 12 (.ifCond .ne 5) 15 (5) 17 := by decide +kernel
theorem q128_15 : qD 128 15 (.iconst (-1)) 1 16 ∧ Int32.ofInt (-1) = (-1 : Int32) := by decide +kernel
theorem q128_16 : qD 128 16 (.ireturn) 1 17 ∧ mR 128 = some .int := by decide +kernel
theorem q128_17 : qD 128 17 (.aload_n 0) 1 18 ∧ ((0 : Fin 4) : Nat) = 0 := by decide +kernel
theorem q128_18 : qG 128 18 34 21 10 6 330 2 := by decide +kernel
theorem q128_21 : qD 128 21 (.iload_n 1) 1 22 ∧ ((1 : Fin 4) : Nat) = 1 := by decide +kernel
theorem q128_22 : qD 128 22 (.aaload) 1 23 := by decide +kernel
theorem q128_23 : qD 128 23 (.astore_n 2) 1 24 ∧ ((2 : Fin 4) : Nat) = 2 ∧ 2 < mL 128 := by decide +kernel
theorem q128_24 : qD 128 24 (.iconst 0) 1 25 ∧ Int32.ofInt (0) = (0 : Int32) := by decide +kernel
theorem q128_25 : qD 128 25 (.istore_n 3) 1 26 ∧ ((3 : Fin 4) : Nat) = 3 ∧ 3 < mL 128 := by decide +kernel
theorem q128_26 : qD 128 26 (.iload_n 3) 1 27 ∧ ((3 : Fin 4) : Nat) = 3 := by decide +kernel
theorem q128_27 : qD 128 27 (.aload_n 2) 1 28 ∧ ((2 : Fin 4) : Nat) = 2 := by decide +kernel
theorem q128_28 : qG 128 28 318 31 6 1 224 0 := by decide +kernel
theorem q128_31 : qJ 128 31 (.if_icmp .ge 34) 34 (34) 65 := by decide +kernel
theorem q128_34 : qD 128 34 (.aload_n 0) 1 35 ∧ ((0 : Fin 4) : Nat) = 0 := by decide +kernel
theorem q128_35 : qD 128 35 (.aload_n 2) 1 36 ∧ ((2 : Fin 4) : Nat) = 2 := by decide +kernel
theorem q128_36 : qD 128 36 (.iload_n 3) 1 37 ∧ ((3 : Fin 4) : Nat) = 3 := by decide +kernel
theorem q128_37 : qD 128 37 (.iconst 0) 1 38 ∧ Int32.ofInt (0) = (0 : Int32) := by decide +kernel
theorem q128_38 : qD 128 38 (.invokevirtual 321) 3 41 ∧ qI 128 321 52 979 := by decide +kernel
