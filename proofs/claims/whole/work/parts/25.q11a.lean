theorem q168_0 : qD 168 0 (.aload_n 0) 1 1 ∧ ((0 : Fin 4) : Nat) = 0 := by decide +kernel
theorem q168_1 : qD 168 1 (.invokespecial 3) 3 4 ∧ inG 1262 (.methodLink (mN 168).cls 3 Lib.objectInit) := by decide +kernel
theorem q168_4 : qD 168 4 (.aload_n 0) 1 5 ∧ ((0 : Fin 4) : Nat) = 0 := by decide +kernel
theorem q168_5 : qD 168 5 (.sipush 240) 3 8 ∧ (Int16.ofInt (240)).toInt32 = (240 : Int32) := by decide +kernel
theorem q168_8 : qD 168 8 (.newarray .byte) 2 10 ∧ (101 = 100 ∨ 101 = 101 ∨ 101 = 102 ∨ 101 = 103) ∧ newarray.typeOf .byte = kty 101 ∧ inG 658 (.arrayClass (kty 101)) := by decide +kernel
theorem q168_10 : qP 168 10 9 13 11 1 1266 2 := by decide +kernel
theorem q168_13 : qD 168 13 (.aload_n 0) 1 14 ∧ ((0 : Fin 4) : Nat) = 0 := by decide +kernel
theorem q168_14 : qD 168 14 (.sipush 960) 3 17 ∧ (Int16.ofInt (960)).toInt32 = (960 : Int32) := by decide +kernel
theorem q168_17 : qD 168 17 (.newarray .byte) 2 19 ∧ (101 = 100 ∨ 101 = 101 ∨ 101 = 102 ∨ 101 = 103) ∧ newarray.typeOf .byte = kty 101 ∧ inG 658 (.arrayClass (kty 101)) := by decide +kernel
theorem q168_19 : qP 168 19 13 22 11 2 1267 2 := by decide +kernel
theorem q168_22 : qD 168 22 (.aload_n 0) 1 23 ∧ ((0 : Fin 4) : Nat) = 0 := by decide +kernel
theorem q168_23 : qD 168 23 (.iconst 4) 1 24 ∧ Int32.ofInt (4) = (4 : Int32) := by decide +kernel
theorem q168_24 : qD 168 24 (.newarray .int) 2 26 ∧ (100 = 100 ∨ 100 = 101 ∨ 100 = 102 ∨ 100 = 103) ∧ newarray.typeOf .int = kty 100 ∧ inG 165 (.arrayClass (kty 100)) := by decide +kernel
theorem q168_26 : qP 168 26 16 29 11 3 1268 2 := by decide +kernel
theorem q168_29 : qD 168 29 (.aload_n 0) 1 30 ∧ ((0 : Fin 4) : Nat) = 0 := by decide +kernel
theorem q168_30 : qD 168 30 (.sipush 128) 3 33 ∧ (Int16.ofInt (128)).toInt32 = (128 : Int32) := by decide +kernel
theorem q168_33 : qD 168 33 (.newarray .int) 2 35 ∧ (100 = 100 ∨ 100 = 101 ∨ 100 = 102 ∨ 100 = 103) ∧ newarray.typeOf .int = kty 100 ∧ inG 165 (.arrayClass (kty 100)) := by decide +kernel
theorem q168_35 : qP 168 35 20 38 11 4 1269 2 := by decide +kernel
theorem q168_38 : qD 168 38 (.aload_n 0) 1 39 ∧ ((0 : Fin 4) : Nat) = 0 := by decide +kernel
theorem q168_39 : qD 168 39 (.aload_n 0) 1 40 ∧ ((0 : Fin 4) : Nat) = 0 := by decide +kernel
theorem q168_40 : qG 168 40 9 43 11 1 1266 2 := by decide +kernel
theorem q168_43 : qP 168 43 23 46 11 5 1270 2 := by decide +kernel
theorem q168_46 : qD 168 46 (.aload_n 0) 1 47 ∧ ((0 : Fin 4) : Nat) = 0 := by decide +kernel
theorem q168_47 : qD 168 47 (.ldc 26) 2 49 ∧ cR[7]? = some ((mN 168).cls, 26, "y", 5) := by decide +kernel
theorem q168_49 : qP 168 49 28 52 11 15 1280 2 := by decide +kernel
theorem q168_52 : qD 168 52 (.aload_n 0) 1 53 ∧ ((0 : Fin 4) : Nat) = 0 := by decide +kernel
theorem q168_53 : qD 168 53 (.ldc 32) 2 55 ∧ cR[8]? = some ((mN 168).cls, 32, "tnmkdg", 3) := by decide +kernel
theorem q168_55 : qP 168 55 34 58 11 16 1281 2 := by decide +kernel
theorem q168_58 : qD 168 58 (.aload_n 0) 1 59 ∧ ((0 : Fin 4) : Nat) = 0 := by decide +kernel
theorem q168_59 : qD 168 59 (.iconst 4) 1 60 ∧ Int32.ofInt (4) = (4 : Int32) := by decide +kernel
theorem q168_60 : qD 168 60 (.newarray .int) 2 62 ∧ (100 = 100 ∨ 100 = 101 ∨ 100 = 102 ∨ 100 = 103) ∧ newarray.typeOf .int = kty 100 ∧ inG 165 (.arrayClass (kty 100)) := by decide +kernel
theorem q168_62 : qP 168 62 37 65 11 18 1283 2 := by decide +kernel
theorem q168_65 : qD 168 65 (.aload_n 0) 1 66 ∧ ((0 : Fin 4) : Nat) = 0 := by decide +kernel
theorem q168_66 : qD 168 66 (.iconst 4) 1 67 ∧ Int32.ofInt (4) = (4 : Int32) := by decide +kernel
theorem q168_67 : qD 168 67 (.newarray .int) 2 69 ∧ (100 = 100 ∨ 100 = 101 ∨ 100 = 102 ∨ 100 = 103) ∧ newarray.typeOf .int = kty 100 ∧ inG 165 (.arrayClass (kty 100)) := by decide +kernel
theorem q168_69 : qP 168 69 40 72 11 19 1284 2 := by decide +kernel
theorem q168_72 : qD 168 72 (.aload_n 0) 1 73 ∧ ((0 : Fin 4) : Nat) = 0 := by decide +kernel
theorem q168_73 : qD 168 73 (.bipush 35) 2 75 ∧ (Int8.ofInt (35)).toInt32 = (35 : Int32) := by decide +kernel
theorem q168_75 : qD 168 75 (.newarray .int) 2 77 ∧ (100 = 100 ∨ 100 = 101 ∨ 100 = 102 ∨ 100 = 103) ∧ newarray.typeOf .int = kty 100 ∧ inG 165 (.arrayClass (kty 100)) := by decide +kernel
theorem q168_77 : qP 168 77 43 80 11 20 1285 2 := by decide +kernel
theorem q168_80 : qD 168 80 (.aload_n 0) 1 81 ∧ ((0 : Fin 4) : Nat) = 0 := by decide +kernel
theorem q168_81 : qD 168 81 (.bipush 35) 2 83 ∧ (Int8.ofInt (35)).toInt32 = (35 : Int32) := by decide +kernel
theorem q168_83 : qD 168 83 (.newarray .int) 2 85 ∧ (100 = 100 ∨ 100 = 101 ∨ 100 = 102 ∨ 100 = 103) ∧ newarray.typeOf .int = kty 100 ∧ inG 165 (.arrayClass (kty 100)) := by decide +kernel
theorem q168_85 : qP 168 85 46 88 11 21 1286 2 := by decide +kernel
theorem q168_88 : qD 168 88 (.aload_n 0) 1 89 ∧ ((0 : Fin 4) : Nat) = 0 := by decide +kernel
theorem q168_89 : qD 168 89 (.bipush 12) 2 91 ∧ (Int8.ofInt (12)).toInt32 = (12 : Int32) := by decide +kernel
theorem q168_91 : qD 168 91 (.newarray .int) 2 93 ∧ (100 = 100 ∨ 100 = 101 ∨ 100 = 102 ∨ 100 = 103) ∧ newarray.typeOf .int = kty 100 ∧ inG 165 (.arrayClass (kty 100)) := by decide +kernel
theorem q168_93 : qP 168 93 49 96 11 22 1287 2 := by decide +kernel
theorem q168_96 : qD 168 96 (.aload_n 0) 1 97 ∧ ((0 : Fin 4) : Nat) = 0 := by decide +kernel
theorem q168_97 : qD 168 97 (.bipush 12) 2 99 ∧ (Int8.ofInt (12)).toInt32 = (12 : Int32) := by decide +kernel
theorem q168_99 : qD 168 99 (.newarray .int) 2 101 ∧ (100 = 100 ∨ 100 = 101 ∨ 100 = 102 ∨ 100 = 103) ∧ newarray.typeOf .int = kty 100 ∧ inG 165 (.arrayClass (kty 100)) := by decide +kernel
theorem q168_101 : qP 168 101 52 104 11 23 1288 2 := by decide +kernel
theorem q168_104 : qD 168 104 (.aload_n 0) 1 105 ∧ ((0 : Fin 4) : Nat) = 0 := by decide +kernel
theorem q168_105 : qD 168 105 (.sipush 240) 3 108 ∧ (Int16.ofInt (240)).toInt32 = (240 : Int32) := by decide +kernel
theorem q168_108 : qD 168 108 (.newarray .int) 2 110 ∧ (100 = 100 ∨ 100 = 101 ∨ 100 = 102 ∨ 100 = 103) ∧ newarray.typeOf .int = kty 100 ∧ inG 165 (.arrayClass (kty 100)) := by decide +kernel
theorem q168_110 : qP 168 110 55 113 11 24 1289 2 := by decide +kernel
theorem q168_113 : qD 168 113 (.aload_n 0) 1 114 ∧ ((0 : Fin 4) : Nat) = 0 := by decide +kernel
theorem q168_114 : qD 168 114 (.iconst 5) 1 115 ∧ Int32.ofInt (5) = (5 : Int32) := by decide +kernel
theorem q168_115 : qD 168 115 (.newarray .int) 2 117 ∧ (100 = 100 ∨ 100 = 101 ∨ 100 = 102 ∨ 100 = 103) ∧ newarray.typeOf .int = kty 100 ∧ inG 165 (.arrayClass (kty 100)) := by decide +kernel
theorem q168_117 : qP 168 117 58 120 11 25 1290 2 := by decide +kernel
theorem q168_120 : qD 168 120 (.aload_n 0) 1 121 ∧ ((0 : Fin 4) : Nat) = 0 := by decide +kernel
theorem q168_121 : qD 168 121 (.sipush 214) 3 124 ∧ (Int16.ofInt (214)).toInt32 = (214 : Int32) := by decide +kernel
theorem q168_124 : qD 168 124 (.newarray .int) 2 126 ∧ (100 = 100 ∨ 100 = 101 ∨ 100 = 102 ∨ 100 = 103) ∧ newarray.typeOf .int = kty 100 ∧ inG 165 (.arrayClass (kty 100)) := by decide +kernel
theorem q168_126 : qP 168 126 61 129 11 32 1297 2 := by decide +kernel
theorem q168_129 : qD 168 129 (.aload_n 0) 1 130 ∧ ((0 : Fin 4) : Nat) = 0 := by decide +kernel
theorem q168_130 : qD 168 130 (.sipush 214) 3 133 ∧ (Int16.ofInt (214)).toInt32 = (214 : Int32) := by decide +kernel
theorem q168_133 : qD 168 133 (.newarray .int) 2 135 ∧ (100 = 100 ∨ 100 = 101 ∨ 100 = 102 ∨ 100 = 103) ∧ newarray.typeOf .int = kty 100 ∧ inG 165 (.arrayClass (kty 100)) := by decide +kernel
theorem q168_135 : qP 168 135 64 138 11 33 1298 2 := by decide +kernel
theorem q168_138 : qD 168 138 (.aload_n 0) 1 139 ∧ ((0 : Fin 4) : Nat) = 0 := by decide +kernel
theorem q168_139 : qD 168 139 (.iconst (-1)) 1 140 ∧ Int32.ofInt (-1) = (-1 : Int32) := by decide +kernel
theorem q168_140 : qP 168 140 67 143 11 34 1299 0 := by decide +kernel
theorem q168_143 : qD 168 143 (.aload_n 0) 1 144 ∧ ((0 : Fin 4) : Nat) = 0 := by decide +kernel
theorem q168_144 : qD 168 144 (.bipush 7) 2 146 ∧ (Int8.ofInt (7)).toInt32 = (7 : Int32) := by decide +kernel
theorem q168_146 : qD 168 146 (.newarray .int) 2 148 ∧ (100 = 100 ∨ 100 = 101 ∨ 100 = 102 ∨ 100 = 103) ∧ newarray.typeOf .int = kty 100 ∧ inG 165 (.arrayClass (kty 100)) := by decide +kernel
theorem q168_148 : qP 168 148 71 151 11 36 1301 2 := by decide +kernel
theorem q168_151 : qD 168 151 (.aload_n 0) 1 152 ∧ ((0 : Fin 4) : Nat) = 0 := by decide +kernel
theorem q168_152 : qD 168 152 (.sipush 8560) 3 155 ∧ (Int16.ofInt (8560)).toInt32 = (8560 : Int32) := by decide +kernel
theorem q168_155 : qD 168 155 (.newarray .int) 2 157 ∧ (100 = 100 ∨ 100 = 101 ∨ 100 = 102 ∨ 100 = 103) ∧ newarray.typeOf .int = kty 100 ∧ inG 165 (.arrayClass (kty 100)) := by decide +kernel
theorem q168_157 : qP 168 157 74 160 11 37 1302 2 := by decide +kernel
theorem q168_160 : qD 168 160 (.aload_n 0) 1 161 ∧ ((0 : Fin 4) : Nat) = 0 := by decide +kernel
theorem q168_161 : qD 168 161 (.bipush 16) 2 163 ∧ (Int8.ofInt (16)).toInt32 = (16 : Int32) := by decide +kernel
theorem q168_163 : qD 168 163 (.newarray .int) 2 165 ∧ (100 = 100 ∨ 100 = 101 ∨ 100 = 102 ∨ 100 = 103) ∧ newarray.typeOf .int = kty 100 ∧ inG 165 (.arrayClass (kty 100)) := by decide +kernel
theorem q168_165 : qP 168 165 77 168 11 42 1307 2 := by decide +kernel
theorem q168_168 : qD 168 168 (.aload_n 0) 1 169 ∧ ((0 : Fin 4) : Nat) = 0 := by decide +kernel
theorem q168_169 : qD 168 169 (.bipush 16) 2 171 ∧ (Int8.ofInt (16)).toInt32 = (16 : Int32) := by decide +kernel
theorem q168_171 : qD 168 171 (.newarray .int) 2 173 ∧ (100 = 100 ∨ 100 = 101 ∨ 100 = 102 ∨ 100 = 103) ∧ newarray.typeOf .int = kty 100 ∧ inG 165 (.arrayClass (kty 100)) := by decide +kernel
theorem q168_173 : qP 168 173 80 176 11 43 1308 2 := by decide +kernel
theorem q168_176 : qD 168 176 (.aload_n 0) 1 177 ∧ ((0 : Fin 4) : Nat) = 0 := by decide +kernel
theorem q168_177 : qD 168 177 (.bipush 16) 2 179 ∧ (Int8.ofInt (16)).toInt32 = (16 : Int32) := by decide +kernel
theorem q168_179 : qD 168 179 (.newarray .boolean) 2 181 ∧ (102 = 100 ∨ 102 = 101 ∨ 102 = 102 ∨ 102 = 103) ∧ newarray.typeOf .boolean = kty 102 ∧ inG 1410 (.arrayClass (kty 102)) := by decide +kernel
theorem q168_181 : qP 168 181 83 184 11 44 1309 2 := by decide +kernel
theorem q168_184 : qD 168 184 (.aload_n 0) 1 185 ∧ ((0 : Fin 4) : Nat) = 0 := by decide +kernel
theorem q168_185 : qD 168 185 (.sipush 214) 3 188 ∧ (Int16.ofInt (214)).toInt32 = (214 : Int32) := by decide +kernel
theorem q168_188 : qD 168 188 (.newarray .int) 2 190 ∧ (100 = 100 ∨ 100 = 101 ∨ 100 = 102 ∨ 100 = 103) ∧ newarray.typeOf .int = kty 100 ∧ inG 165 (.arrayClass (kty 100)) := by decide +kernel
theorem q168_190 : qP 168 190 87 193 11 46 1311 2 := by decide +kernel
theorem q168_193 : qD 168 193 (.return_) 1 194 ∧ mR 168 = none := by decide +kernel
theorem q169_0 : qD 169 0 (.aload_n 0) 1 1 ∧ ((0 : Fin 4) : Nat) = 0 := by decide +kernel
theorem q169_1 : qG 169 1 90 4 11 0 1265 0 := by decide +kernel
theorem q169_4 : qD 169 4 (.ireturn) 1 5 ∧ mR 169 = some .int := by decide +kernel
theorem q170_0 : qD 170 0 (.lload_n 0) 1 1 ∧ ((0 : Fin 4) : Nat) = 0 := by decide +kernel
theorem q170_1 : qD 170 1 (.lload_n 2) 1 2 ∧ ((2 : Fin 4) : Nat) = 2 := by decide +kernel
theorem q170_2 : qD 170 2 (.lcmp) 1 3 := by decide +kernel
theorem q170_3 : qJ 170 3 (.ifCond .lt 14) 6 (14) 17 := by decide +kernel
theorem q170_6 : qD 170 6 (.lload_n 0) 1 7 ∧ ((0 : Fin 4) : Nat) = 0 := by decide +kernel
theorem q170_7 : qD 170 7 (.lload 4) 2 9 := by decide +kernel
theorem q170_9 : qD 170 9 (.lcmp) 1 10 := by decide +kernel
theorem q170_10 : qJ 170 10 (.ifCond .gt 7) 13 (7) 17 := by decide +kernel
theorem q170_13 : qD 170 13 (.iconst 1) 1 14 ∧ Int32.ofInt (1) = (1 : Int32) := by decide +kernel
theorem q170_14 : qJ 170 14 (.goto 4) 17 (4) 18 := by decide +kernel
theorem q170_17 : qD 170 17 (.iconst 0) 1 18 ∧ Int32.ofInt (0) = (0 : Int32) := by decide +kernel
theorem q170_18 : qD 170 18 (.ireturn) 1 19 ∧ mR 170 = some .boolean := by decide +kernel
theorem q171_0 : qD 171 0 (.iload_n 0) 1 1 ∧ ((0 : Fin 4) : Nat) = 0 := by decide +kernel
theorem q171_1 : qD 171 1 (.iload_n 1) 1 2 ∧ ((1 : Fin 4) : Nat) = 1 := by decide +kernel
theorem q171_2 : qD 171 2 (.ishr) 1 3 := by decide +kernel
theorem q171_3 : qD 171 3 (.iconst 1) 1 4 ∧ Int32.ofInt (1) = (1 : Int32) := by decide +kernel
theorem q171_4 : qD 171 4 (.iand) 1 5 := by decide +kernel
theorem q171_5 : qD 171 5 (.iconst 1) 1 6 ∧ Int32.ofInt (1) = (1 : Int32) := by decide +kernel
theorem q171_6 : qJ 171 6 (.if_icmp .ne 7) 9 (7) 13 := by decide +kernel
theorem q171_9 : qD 171 9 (.iconst 1) 1 10 ∧ Int32.ofInt (1) = (1 : Int32) := by decide +kernel
theorem q171_10 : qJ 171 10 (.goto 4) 13 (4) 14 := by decide +kernel
theorem q171_13 : qD 171 13 (.iconst 0) 1 14 ∧ Int32.ofInt (0) = (0 : Int32) := by decide +kernel
theorem q171_14 : qD 171 14 (.ireturn) 1 15 ∧ mR 171 = some .boolean := by decide +kernel
theorem q172_0 : qD 172 0 (.iconst 0) 1 1 ∧ Int32.ofInt (0) = (0 : Int32) := by decide +kernel
theorem q172_1 : qD 172 1 (.istore_n 2) 1 2 ∧ ((2 : Fin 4) : Nat) = 2 ∧ 2 < mL 172 := by decide +kernel
theorem q172_2 : qD 172 2 (.iload_n 2) 1 3 ∧ ((2 : Fin 4) : Nat) = 2 := by decide +kernel
theorem q172_3 : qD 172 3 (.aload_n 0) 1 4 ∧ ((0 : Fin 4) : Nat) = 0 := by decide +kernel
theorem q172_4 : qD 172 4 (.invokevirtual 93) 3 7 ∧ inG 1466 (.methodLink (mN 172).cls 93 (mN 301)) ∧ mL 301 ≤ 41 ∧ (mN 301).cls = "java/lang/String" := by decide +kernel
theorem q172_7 : qJ 172 7 (.if_icmp .ge 20) 10 (20) 27 := by decide +kernel
theorem q172_10 : qD 172 10 (.aload_n 0) 1 11 ∧ ((0 : Fin 4) : Nat) = 0 := by decide +kernel
theorem q172_11 : qD 172 11 (.iload_n 2) 1 12 ∧ ((2 : Fin 4) : Nat) = 2 := by decide +kernel
theorem q172_12 : qD 172 12 (.invokevirtual 99) 3 15 ∧ inG 1470 (.methodLink (mN 172).cls 99 (mN 302)) ∧ mL 302 ≤ 41 ∧ (mN 302).cls = "java/lang/String" := by decide +kernel
theorem q172_15 : qD 172 15 (.iload_n 1) 1 16 ∧ ((1 : Fin 4) : Nat) = 1 := by decide +kernel
theorem q172_16 : qJ 172 16 (.if_icmp .ne 5) 19 (5) 21 := by decide +kernel
theorem q172_19 : qD 172 19 (.iconst 1) 1 20 ∧ Int32.ofInt (1) = (1 : Int32) := by decide +kernel
theorem q172_20 : qD 172 20 (.ireturn) 1 21 ∧ mR 172 = some .boolean := by decide +kernel
theorem q172_21 : qD 172 21 (.iinc 2 1) 3 24 ∧ 2 < mL 172 ∧ Int32.ofInt (1) = (1 : Int32) := by decide +kernel
theorem q172_24 : qJ 172 24 (.goto (-22)) 27 (-22) 2 := by decide +kernel
theorem q172_27 : qD 172 27 (.iconst 0) 1 28 ∧ Int32.ofInt (0) = (0 : Int32) := by decide +kernel
theorem q172_28 : qD 172 28 (.ireturn) 1 29 ∧ mR 172 = some .boolean := by decide +kernel
theorem q173_0 : qD 173 0 (.iconst 0) 1 1 ∧ Int32.ofInt (0) = (0 : Int32) := by decide +kernel
theorem q173_1 : qD 173 1 (.istore_n 1) 1 2 ∧ ((1 : Fin 4) : Nat) = 1 ∧ 1 < mL 173 := by decide +kernel
theorem q173_2 : qD 173 2 (.bipush 24) 2 4 ∧ (Int8.ofInt (24)).toInt32 = (24 : Int32) := by decide +kernel
theorem q173_4 : qD 173 4 (.istore_n 2) 1 5 ∧ ((2 : Fin 4) : Nat) = 2 ∧ 2 < mL 173 := by decide +kernel
theorem q173_5 : qD 173 5 (.iload_n 2) 1 6 ∧ ((2 : Fin 4) : Nat) = 2 := by decide +kernel
theorem q173_6 : qJ 173 6 (.ifCond .lt 27) 9 (27) 33 := by decide +kernel
theorem q173_9 : qD 173 9 (.iload_n 1) 1 10 ∧ ((1 : Fin 4) : Nat) = 1 := by decide +kernel
theorem q173_10 : qD 173 10 (.iload_n 0) 1 11 ∧ ((0 : Fin 4) : Nat) = 0 := by decide +kernel
theorem q173_11 : qD 173 11 (.iload_n 2) 1 12 ∧ ((2 : Fin 4) : Nat) = 2 := by decide +kernel
theorem q173_12 : qD 173 12 (.ishr) 1 13 := by decide +kernel
theorem q173_13 : qD 173 13 (.sipush 255) 3 16 ∧ (Int16.ofInt (255)).toInt32 = (255 : Int32) := by decide +kernel
theorem q173_16 : qD 173 16 (.iand) 1 17 := by decide +kernel
theorem q173_17 : qJ 173 17 (.ifCond .eq 7) 20 (7) 24 := by decide +kernel
theorem q173_20 : qD 173 20 (.iconst 1) 1 21 ∧ Int32.ofInt (1) = (1 : Int32) := by decide +kernel
theorem q173_21 : qJ 173 21 (.goto 4) 24 (4) 25 := by decide +kernel
theorem q173_24 : qD 173 24 (.iconst 0) 1 25 ∧ Int32.ofInt (0) = (0 : Int32) := by decide +kernel
theorem q173_25 : qD 173 25 (.iadd) 1 26 := by decide +kernel
theorem q173_26 : qD 173 26 (.istore_n 1) 1 27 ∧ ((1 : Fin 4) : Nat) = 1 ∧ 1 < mL 173 := by decide +kernel
theorem q173_27 : qD 173 27 (.iinc 2 (-8)) 3 30 ∧ 2 < mL 173 ∧ Int32.ofInt (-8) = (-8 : Int32) := by decide +kernel
theorem q173_30 : qJ 173 30 (.goto (-25)) 33 (-25) 5 := by decide +kernel
theorem q173_33 : qD 173 33 (.iload_n 1) 1 34 ∧ ((1 : Fin 4) : Nat) = 1 := by decide +kernel
theorem q173_34 : qD 173 34 (.ireturn) 1 35 ∧ mR 173 = some .int := by decide +kernel
theorem q174_0 : qD 174 0 (.bipush 24) 2 2 ∧ (Int8.ofInt (24)).toInt32 = (24 : Int32) := by decide +kernel
theorem q174_2 : qD 174 2 (.istore_n 2) 1 3 ∧ ((2 : Fin 4) : Nat) = 2 ∧ 2 < mL 174 := by decide +kernel
theorem q174_3 : qD 174 3 (.iload_n 2) 1 4 ∧ ((2 : Fin 4) : Nat) = 2 := by decide +kernel
theorem q174_4 : qJ 174 4 (.ifCond .lt 45) 7 (45) 49 := by decide +kernel
theorem q174_7 : qD 174 7 (.iload_n 1) 1 8 ∧ ((1 : Fin 4) : Nat) = 1 := by decide +kernel
theorem q174_8 : qD 174 8 (.iload_n 2) 1 9 ∧ ((2 : Fin 4) : Nat) = 2 := by decide +kernel
theorem q174_9 : qD 174 9 (.ishr) 1 10 := by decide +kernel
theorem q174_10 : qD 174 10 (.sipush 255) 3 13 ∧ (Int16.ofInt (255)).toInt32 = (255 : Int32) := by decide +kernel
theorem q174_13 : qD 174 13 (.iand) 1 14 := by decide +kernel
theorem q174_14 : qJ 174 14 (.ifCond .ne 6) 17 (6) 20 := by decide +kernel
theorem q174_17 : qJ 174 17 (.goto 26) 20 (26) 43 := by decide +kernel
theorem q174_20 : qD 174 20 (.aload_n 0) 1 21 ∧ ((0 : Fin 4) : Nat) = 0 := by decide +kernel
theorem q174_21 : qG 174 21 9 24 11 1 1266 2 := by decide +kernel
theorem q174_24 : qD 174 24 (.aload_n 0) 1 25 ∧ ((0 : Fin 4) : Nat) = 0 := by decide +kernel
theorem q174_25 : qG 174 25 103 28 11 6 1271 0 := by decide +kernel
theorem q174_28 : qD 174 28 (.iload_n 1) 1 29 ∧ ((1 : Fin 4) : Nat) = 1 := by decide +kernel
theorem q174_29 : qD 174 29 (.iload_n 2) 1 30 ∧ ((2 : Fin 4) : Nat) = 2 := by decide +kernel
theorem q174_30 : qD 174 30 (.ishr) 1 31 := by decide +kernel
theorem q174_31 : qD 174 31 (.i2b) 1 32 := by decide +kernel
theorem q174_32 : qD 174 32 (.bastore) 1 33 := by decide +kernel
theorem q174_33 : qD 174 33 (.aload_n 0) 1 34 ∧ ((0 : Fin 4) : Nat) = 0 := by decide +kernel
theorem q174_34 : qD 174 34 (.dup) 1 35 := by decide +kernel
theorem q174_35 : qG 174 35 103 38 11 6 1271 0 := by decide +kernel
theorem q174_38 : qD 174 38 (.iconst 1) 1 39 ∧ Int32.ofInt (1) = (1 : Int32) := by decide +kernel
theorem q174_39 : qD 174 39 (.iadd) 1 40 := by decide +kernel
theorem q174_40 : qP 174 40 103 43 11 6 1271 0 := by decide +kernel
theorem q174_43 : qD 174 43 (.iinc 2 (-8)) 3 46 ∧ 2 < mL 174 ∧ Int32.ofInt (-8) = (-8 : Int32) := by decide +kernel
theorem q174_46 : qJ 174 46 (.goto (-43)) 49 (-43) 3 := by decide +kernel
theorem q174_49 : qD 174 49 (.return_) 1 50 ∧ mR 174 = none := by decide +kernel
theorem q175_0 : qD 175 0 (.aload_n 0) 1 1 ∧ ((0 : Fin 4) : Nat) = 0 := by decide +kernel
theorem q175_1 : qD 175 1 (.iconst 0) 1 2 ∧ Int32.ofInt (0) = (0 : Int32) := by decide +kernel
theorem q175_2 : qP 175 2 90 5 11 0 1265 0 := by decide +kernel
theorem q175_5 : qD 175 5 (.aload_n 0) 1 6 ∧ ((0 : Fin 4) : Nat) = 0 := by decide +kernel
theorem q175_6 : qG 175 6 103 9 11 6 1271 0 := by decide +kernel
theorem q175_9 : qD 175 9 (.iload_n 1) 1 10 ∧ ((1 : Fin 4) : Nat) = 1 := by decide +kernel
theorem q175_10 : qD 175 10 (.invokestatic 105) 3 13 ∧ qI 175 105 173 1419 := by decide +kernel
theorem q175_13 : qD 175 13 (.iadd) 1 14 := by decide +kernel
theorem q175_14 : qD 175 14 (.iload_n 2) 1 15 ∧ ((2 : Fin 4) : Nat) = 2 := by decide +kernel
theorem q175_15 : qD 175 15 (.invokestatic 105) 3 18 ∧ qI 175 105 173 1419 := by decide +kernel
theorem q175_18 : qD 175 18 (.iadd) 1 19 := by decide +kernel
theorem q175_19 : qD 175 19 (.iload_n 3) 1 20 ∧ ((3 : Fin 4) : Nat) = 3 := by decide +kernel
theorem q175_20 : qD 175 20 (.invokestatic 105) 3 23 ∧ qI 175 105 173 1419 := by decide +kernel
theorem q175_23 : qD 175 23 (.iadd) 1 24 := by decide +kernel
theorem q175_24 : qD 175 24 (.iload 4) 2 26 := by decide +kernel
theorem q175_26 : qD 175 26 (.invokestatic 105) 3 29 ∧ qI 175 105 173 1419 := by decide +kernel
theorem q175_29 : qD 175 29 (.iadd) 1 30 := by decide +kernel
theorem q175_30 : qD 175 30 (.iload 5) 2 32 := by decide +kernel
theorem q175_32 : qD 175 32 (.invokestatic 105) 3 35 ∧ qI 175 105 173 1419 := by decide +kernel
theorem q175_35 : qD 175 35 (.iadd) 1 36 := by decide +kernel
theorem q175_36 : qD 175 36 (.sipush 240) 3 39 ∧ (Int16.ofInt (240)).toInt32 = (240 : Int32) := by decide +kernel
theorem q175_39 : qJ 175 39 (.if_icmp .le 5) 42 (5) 44 := by decide +kernel
theorem q175_42 : qD 175 42 (.iconst (-1)) 1 43 ∧ Int32.ofInt (-1) = (-1 : Int32) := by decide +kernel
theorem q175_43 : qD 175 43 (.ireturn) 1 44 ∧ mR 175 = some .int := by decide +kernel
theorem q175_44 : qD 175 44 (.aload_n 0) 1 45 ∧ ((0 : Fin 4) : Nat) = 0 := by decide +kernel
theorem q175_45 : qD 175 45 (.iload_n 1) 1 46 ∧ ((1 : Fin 4) : Nat) = 1 := by decide +kernel
theorem q175_46 : qD 175 46 (.invokevirtual 109) 3 49 ∧ qI 175 109 174 1422 := by decide +kernel
theorem q175_49 : qD 175 49 (.aload_n 0) 1 50 ∧ ((0 : Fin 4) : Nat) = 0 := by decide +kernel
theorem q175_50 : qD 175 50 (.iload_n 2) 1 51 ∧ ((2 : Fin 4) : Nat) = 2 := by decide +kernel
theorem q175_51 : qD 175 51 (.invokevirtual 109) 3 54 ∧ qI 175 109 174 1422 := by decide +kernel
theorem q175_54 : qD 175 54 (.aload_n 0) 1 55 ∧ ((0 : Fin 4) : Nat) = 0 := by decide +kernel
theorem q175_55 : qD 175 55 (.iload_n 3) 1 56 ∧ ((3 : Fin 4) : Nat) = 3 := by decide +kernel
theorem q175_56 : qD 175 56 (.invokevirtual 109) 3 59 ∧ qI 175 109 174 1422 := by decide +kernel
theorem q175_59 : qD 175 59 (.aload_n 0) 1 60 ∧ ((0 : Fin 4) : Nat) = 0 := by decide +kernel
theorem q175_60 : qD 175 60 (.iload 4) 2 62 := by decide +kernel
theorem q175_62 : qD 175 62 (.invokevirtual 109) 3 65 ∧ qI 175 109 174 1422 := by decide +kernel
theorem q175_65 : qD 175 65 (.aload_n 0) 1 66 ∧ ((0 : Fin 4) : Nat) = 0 := by decide +kernel
theorem q175_66 : qD 175 66 (.iload 5) 2 68 := by decide +kernel
theorem q175_68 : qD 175 68 (.invokevirtual 109) 3 71 ∧ qI 175 109 174 1422 := by decide +kernel
theorem q175_71 : qD 175 71 (.aload_n 0) 1 72 ∧ ((0 : Fin 4) : Nat) = 0 := by decide +kernel
theorem q175_72 : qG 175 72 103 75 11 6 1271 0 := by decide +kernel
theorem q175_75 : qD 175 75 (.ireturn) 1 76 ∧ mR 175 = some .int := by decide +kernel
theorem q176_0 : qD 176 0 (.aload_n 0) 1 1 ∧ ((0 : Fin 4) : Nat) = 0 := by decide +kernel
theorem q176_1 : qD 176 1 (.iconst 0) 1 2 ∧ Int32.ofInt (0) = (0 : Int32) := by decide +kernel
theorem q176_2 : qP 176 2 90 5 11 0 1265 0 := by decide +kernel
theorem q176_5 : qD 176 5 (.iload_n 1) 1 6 ∧ ((1 : Fin 4) : Nat) = 1 := by decide +kernel
theorem q176_6 : qJ 176 6 (.ifCond .lt 11) 9 (11) 17 := by decide +kernel
theorem q176_9 : qD 176 9 (.iload_n 1) 1 10 ∧ ((1 : Fin 4) : Nat) = 1 := by decide +kernel
theorem q176_10 : qD 176 10 (.aload_n 0) 1 11 ∧ ((0 : Fin 4) : Nat) = 0 := by decide +kernel
theorem q176_11 : qG 176 11 103 14 11 6 1271 0 := by decide +kernel
theorem q176_14 : qJ 176 14 (.if_icmp .le 5) 17 (5) 19 := by decide +kernel
theorem q176_17 : qD 176 17 (.iconst 0) 1 18 ∧ Int32.ofInt (0) = (0 : Int32) := by decide +kernel
theorem q176_18 : qD 176 18 (.ireturn) 1 19 ∧ mR 176 = some .boolean := by decide +kernel
theorem q176_19 : qD 176 19 (.aload_n 0) 1 20 ∧ ((0 : Fin 4) : Nat) = 0 := by decide +kernel
theorem q176_20 : qD 176 20 (.iload_n 1) 1 21 ∧ ((1 : Fin 4) : Nat) = 1 := by decide +kernel
theorem q176_21 : qP 176 21 103 24 11 6 1271 0 := by decide +kernel
theorem q176_24 : qD 176 24 (.iconst 1) 1 25 ∧ Int32.ofInt (1) = (1 : Int32) := by decide +kernel
theorem q176_25 : qD 176 25 (.ireturn) 1 26 ∧ mR 176 = some .boolean := by decide +kernel
theorem q177_0 : qD 177 0 (.aload_n 0) 1 1 ∧ ((0 : Fin 4) : Nat) = 0 := by decide +kernel
theorem q177_1 : qG 177 1 113 4 11 10 1275 0 := by decide +kernel
theorem q177_4 : qD 177 4 (.aload_n 0) 1 5 ∧ ((0 : Fin 4) : Nat) = 0 := by decide +kernel
theorem q177_5 : qG 177 5 116 8 11 9 1274 0 := by decide +kernel
theorem q177_8 : qJ 177 8 (.if_icmp .ge 35) 11 (35) 43 := by decide +kernel
theorem q177_11 : qD 177 11 (.aload_n 0) 1 12 ∧ ((0 : Fin 4) : Nat) = 0 := by decide +kernel
theorem q177_12 : qG 177 12 23 15 11 5 1270 2 := by decide +kernel
theorem q177_15 : qD 177 15 (.aload_n 0) 1 16 ∧ ((0 : Fin 4) : Nat) = 0 := by decide +kernel
theorem q177_16 : qG 177 16 119 19 11 8 1273 0 := by decide +kernel
theorem q177_19 : qD 177 19 (.aload_n 0) 1 20 ∧ ((0 : Fin 4) : Nat) = 0 := by decide +kernel
theorem q177_20 : qG 177 20 113 23 11 10 1275 0 := by decide +kernel
theorem q177_23 : qD 177 23 (.iadd) 1 24 := by decide +kernel
theorem q177_24 : qD 177 24 (.baload) 1 25 := by decide +kernel
theorem q177_25 : qD 177 25 (.bipush 32) 2 27 ∧ (Int8.ofInt (32)).toInt32 = (32 : Int32) := by decide +kernel
theorem q177_27 : qJ 177 27 (.if_icmp .ne 16) 30 (16) 43 := by decide +kernel
theorem q177_30 : qD 177 30 (.aload_n 0) 1 31 ∧ ((0 : Fin 4) : Nat) = 0 := by decide +kernel
theorem q177_31 : qD 177 31 (.dup) 1 32 := by decide +kernel
theorem q177_32 : qG 177 32 113 35 11 10 1275 0 := by decide +kernel
theorem q177_35 : qD 177 35 (.iconst 1) 1 36 ∧ Int32.ofInt (1) = (1 : Int32) := by decide +kernel
theorem q177_36 : qD 177 36 (.iadd) 1 37 := by decide +kernel
theorem q177_37 : qP 177 37 113 40 11 10 1275 0 := by decide +kernel
theorem q177_40 : qJ 177 40 (.goto (-40)) 43 (-40) 0 := by decide +kernel
theorem q177_43 : qD 177 43 (.aload_n 0) 1 44 ∧ ((0 : Fin 4) : Nat) = 0 := by decide +kernel
theorem q177_44 : qG 177 44 113 47 11 10 1275 0 := by decide +kernel
theorem q177_47 : qD 177 47 (.aload_n 0) 1 48 ∧ ((0 : Fin 4) : Nat) = 0 := by decide +kernel
theorem q177_48 : qG 177 48 116 51 11 9 1274 0 := by decide +kernel
theorem q177_51 : qJ 177 51 (.if_icmp .ge 24) 54 (24) 75 := by decide +kernel
theorem q177_54 : qD 177 54 (.aload_n 0) 1 55 ∧ ((0 : Fin 4) : Nat) = 0 := by decide +kernel
theorem q177_55 : qG 177 55 23 58 11 5 1270 2 := by decide +kernel
theorem q177_58 : qD 177 58 (.aload_n 0) 1 59 ∧ ((0 : Fin 4) : Nat) = 0 := by decide +kernel
theorem q177_59 : qG 177 59 119 62 11 8 1273 0 := by decide +kernel
theorem q177_62 : qD 177 62 (.aload_n 0) 1 63 ∧ ((0 : Fin 4) : Nat) = 0 := by decide +kernel
theorem q177_63 : qG 177 63 113 66 11 10 1275 0 := by decide +kernel
theorem q177_66 : qD 177 66 (.iadd) 1 67 := by decide +kernel
theorem q177_67 : qD 177 67 (.baload) 1 68 := by decide +kernel
theorem q177_68 : qD 177 68 (.sipush 255) 3 71 ∧ (Int16.ofInt (255)).toInt32 = (255 : Int32) := by decide +kernel
theorem q177_71 : qD 177 71 (.iand) 1 72 := by decide +kernel
theorem q177_72 : qJ 177 72 (.goto 4) 75 (4) 76 := by decide +kernel
theorem q177_75 : qD 177 75 (.iconst (-1)) 1 76 ∧ Int32.ofInt (-1) = (-1 : Int32) := by decide +kernel
theorem q177_76 : qD 177 76 (.ireturn) 1 77 ∧ mR 177 = some .int := by decide +kernel
theorem q178_0 : qD 178 0 (.aload_n 0) 1 1 ∧ ((0 : Fin 4) : Nat) = 0 := by decide +kernel
theorem q178_1 : qG 178 1 122 4 11 11 1276 0 := by decide +kernel
theorem q178_4 : qD 178 4 (.iconst (-1)) 1 5 ∧ Int32.ofInt (-1) = (-1 : Int32) := by decide +kernel
theorem q178_5 : qJ 178 5 (.if_icmp .ne 11) 8 (11) 16 := by decide +kernel
theorem q178_8 : qD 178 8 (.aload_n 0) 1 9 ∧ ((0 : Fin 4) : Nat) = 0 := by decide +kernel
theorem q178_9 : qD 178 9 (.aload_n 0) 1 10 ∧ ((0 : Fin 4) : Nat) = 0 := by decide +kernel
theorem q178_10 : qG 178 10 113 13 11 10 1275 0 := by decide +kernel
theorem q178_13 : qP 178 13 122 16 11 11 1276 0 := by decide +kernel
theorem q178_16 : qD 178 16 (.iconst 0) 1 17 ∧ Int32.ofInt (0) = (0 : Int32) := by decide +kernel
theorem q178_17 : qD 178 17 (.ireturn) 1 18 ∧ mR 178 = some .boolean := by decide +kernel
theorem q179_0 : qD 179 0 (.aload_n 0) 1 1 ∧ ((0 : Fin 4) : Nat) = 0 := by decide +kernel
theorem q179_1 : qG 179 1 125 4 11 12 1277 0 := by decide +kernel
theorem q179_4 : qD 179 4 (.bipush 6) 2 6 ∧ (Int8.ofInt (6)).toInt32 = (6 : Int32) := by decide +kernel
theorem q179_6 : qJ 179 6 (.if_icmp .ne 8) 9 (8) 14 := by decide +kernel
theorem q179_9 : qD 179 9 (.aload_n 0) 1 10 ∧ ((0 : Fin 4) : Nat) = 0 := by decide +kernel
theorem q179_10 : qD 179 10 (.invokevirtual 128) 3 13 ∧ qI 179 128 178 1457 := by decide +kernel
theorem q179_13 : qD 179 13 (.ireturn) 1 14 ∧ mR 179 = some .boolean := by decide +kernel
theorem q179_14 : qD 179 14 (.aload_n 0) 1 15 ∧ ((0 : Fin 4) : Nat) = 0 := by decide +kernel
theorem q179_15 : qD 179 15 (.dup) 1 16 := by decide +kernel
theorem q179_16 : qG 179 16 125 19 11 12 1277 0 := by decide +kernel
theorem q179_19 : qD 179 19 (.iconst 1) 1 20 ∧ Int32.ofInt (1) = (1 : Int32) := by decide +kernel
theorem q179_20 : qD 179 20 (.iadd) 1 21 := by decide +kernel
theorem q179_21 : qP 179 21 125 24 11 12 1277 0 := by decide +kernel
theorem q179_24 : qD 179 24 (.aload_n 0) 1 25 ∧ ((0 : Fin 4) : Nat) = 0 := by decide +kernel
theorem q179_25 : qD 179 25 (.dup) 1 26 := by decide +kernel
theorem q179_26 : qG 179 26 113 29 11 10 1275 0 := by decide +kernel
theorem q179_29 : qD 179 29 (.iconst 1) 1 30 ∧ Int32.ofInt (1) = (1 : Int32) := by decide +kernel
theorem q179_30 : qD 179 30 (.iadd) 1 31 := by decide +kernel
theorem q179_31 : qP 179 31 113 34 11 10 1275 0 := by decide +kernel
theorem q179_34 : qD 179 34 (.iconst 1) 1 35 ∧ Int32.ofInt (1) = (1 : Int32) := by decide +kernel
theorem q179_35 : qD 179 35 (.ireturn) 1 36 ∧ mR 179 = some .boolean := by decide +kernel
theorem q180_0 : qD 180 0 (.aload_n 0) 1 1 ∧ ((0 : Fin 4) : Nat) = 0 := by decide +kernel
theorem q180_1 : qG 180 1 122 4 11 11 1276 0 := by decide +kernel
theorem q180_4 : qD 180 4 (.iconst (-1)) 1 5 ∧ Int32.ofInt (-1) = (-1 : Int32) := by decide +kernel
theorem q180_5 : qJ 180 5 (.if_icmp .ne 11) 8 (11) 16 := by decide +kernel
theorem q180_8 : qD 180 8 (.aload_n 0) 1 9 ∧ ((0 : Fin 4) : Nat) = 0 := by decide +kernel
theorem q180_9 : qD 180 9 (.invokevirtual 132) 3 12 ∧ qI 180 132 177 1453 := by decide +kernel
theorem q180_12 : qD 180 12 (.iload_n 1) 1 13 ∧ ((1 : Fin 4) : Nat) = 1 := by decide +kernel
theorem q180_13 : qJ 180 13 (.if_icmp .eq 8) 16 (8) 21 := by decide +kernel
theorem q180_16 : qD 180 16 (.aload_n 0) 1 17 ∧ ((0 : Fin 4) : Nat) = 0 := by decide +kernel
theorem q180_17 : qD 180 17 (.invokevirtual 128) 3 20 ∧ qI 180 128 178 1457 := by decide +kernel
theorem q180_20 : qD 180 20 (.ireturn) 1 21 ∧ mR 180 = some .boolean := by decide +kernel
theorem q180_21 : qD 180 21 (.aload_n 0) 1 22 ∧ ((0 : Fin 4) : Nat) = 0 := by decide +kernel
theorem q180_22 : qD 180 22 (.dup) 1 23 := by decide +kernel
theorem q180_23 : qG 180 23 113 26 11 10 1275 0 := by decide +kernel
theorem q180_26 : qD 180 26 (.iconst 1) 1 27 ∧ Int32.ofInt (1) = (1 : Int32) := by decide +kernel
theorem q180_27 : qD 180 27 (.iadd) 1 28 := by decide +kernel
theorem q180_28 : qP 180 28 113 31 11 10 1275 0 := by decide +kernel
theorem q180_31 : qD 180 31 (.iconst 1) 1 32 ∧ Int32.ofInt (1) = (1 : Int32) := by decide +kernel
theorem q180_32 : qD 180 32 (.ireturn) 1 33 ∧ mR 180 = some .boolean := by decide +kernel
theorem q181_0 : qD 181 0 (.aload_n 0) 1 1 ∧ ((0 : Fin 4) : Nat) = 0 := by decide +kernel
theorem q181_1 : qG 181 1 113 4 11 10 1275 0 := by decide +kernel
theorem q181_4 : qD 181 4 (.aload_n 0) 1 5 ∧ ((0 : Fin 4) : Nat) = 0 := by decide +kernel
theorem q181_5 : qG 181 5 116 8 11 9 1274 0 := by decide +kernel
theorem q181_8 : qJ 181 8 (.if_icmp .ge 45) 11 (45) 53 := by decide +kernel
theorem q181_11 : qD 181 11 (.aload_n 0) 1 12 ∧ ((0 : Fin 4) : Nat) = 0 := by decide +kernel
theorem q181_12 : qG 181 12 23 15 11 5 1270 2 := by decide +kernel
theorem q181_15 : qD 181 15 (.aload_n 0) 1 16 ∧ ((0 : Fin 4) : Nat) = 0 := by decide +kernel
theorem q181_16 : qG 181 16 119 19 11 8 1273 0 := by decide +kernel
theorem q181_19 : qD 181 19 (.aload_n 0) 1 20 ∧ ((0 : Fin 4) : Nat) = 0 := by decide +kernel
theorem q181_20 : qG 181 20 113 23 11 10 1275 0 := by decide +kernel
theorem q181_23 : qD 181 23 (.iadd) 1 24 := by decide +kernel
theorem q181_24 : qD 181 24 (.baload) 1 25 := by decide +kernel
theorem q181_25 : qD 181 25 (.bipush 48) 2 27 ∧ (Int8.ofInt (48)).toInt32 = (48 : Int32) := by decide +kernel
theorem q181_27 : qJ 181 27 (.if_icmp .lt 26) 30 (26) 53 := by decide +kernel
theorem q181_30 : qD 181 30 (.aload_n 0) 1 31 ∧ ((0 : Fin 4) : Nat) = 0 := by decide +kernel
theorem q181_31 : qG 181 31 23 34 11 5 1270 2 := by decide +kernel
theorem q181_34 : qD 181 34 (.aload_n 0) 1 35 ∧ ((0 : Fin 4) : Nat) = 0 := by decide +kernel
theorem q181_35 : qG 181 35 119 38 11 8 1273 0 := by decide +kernel
theorem q181_38 : qD 181 38 (.aload_n 0) 1 39 ∧ ((0 : Fin 4) : Nat) = 0 := by decide +kernel
theorem q181_39 : qG 181 39 113 42 11 10 1275 0 := by decide +kernel
theorem q181_42 : qD 181 42 (.iadd) 1 43 := by decide +kernel
theorem q181_43 : qD 181 43 (.baload) 1 44 := by decide +kernel
theorem q181_44 : qD 181 44 (.bipush 57) 2 46 ∧ (Int8.ofInt (57)).toInt32 = (57 : Int32) := by decide +kernel
theorem q181_46 : qJ 181 46 (.if_icmp .gt 7) 49 (7) 53 := by decide +kernel
theorem q181_49 : qD 181 49 (.iconst 1) 1 50 ∧ Int32.ofInt (1) = (1 : Int32) := by decide +kernel
theorem q181_50 : qJ 181 50 (.goto 4) 53 (4) 54 := by decide +kernel
theorem q181_53 : qD 181 53 (.iconst 0) 1 54 ∧ Int32.ofInt (0) = (0 : Int32) := by decide +kernel
theorem q181_54 : qD 181 54 (.ireturn) 1 55 ∧ mR 181 = some .boolean := by decide +kernel
theorem q182_0 : qD 182 0 (.ldc2_w 135) 3 3 ∧ inG 1559 (.constantLong (mN 182).cls 135 (-1000000)) := by decide +kernel
theorem q182_3 : qD 182 3 (.ldc2_w 137) 3 6 ∧ inG 1560 (.constantLong (mN 182).cls 137 (1000000)) := by decide +kernel
theorem q182_6 : qD 182 6 (.lload_n 0) 1 7 ∧ ((0 : Fin 4) : Nat) = 0 := by decide +kernel
theorem q182_7 : qD 182 7 (.invokestatic 139) 3 10 ∧ inG 1561 (.methodLink (mN 182).cls 139 Lib.MathLoose.min_long.x) := by decide +kernel
theorem q182_10 : qD 182 10 (.invokestatic 145) 3 13 ∧ inG 1562 (.methodLink (mN 182).cls 145 Lib.MathLoose.max_long.x) := by decide +kernel
theorem q182_13 : qD 182 13 (.l2i) 1 14 := by decide +kernel
theorem q182_14 : qD 182 14 (.ireturn) 1 15 ∧ mR 182 = some .int := by decide +kernel
theorem q183_0 : qD 183 0 (.aload_n 0) 1 1 ∧ ((0 : Fin 4) : Nat) = 0 := by decide +kernel
theorem q183_1 : qD 183 1 (.invokevirtual 132) 3 4 ∧ qI 183 132 177 1453 := by decide +kernel
theorem q183_4 : qD 183 4 (.istore_n 1) 1 5 ∧ ((1 : Fin 4) : Nat) = 1 ∧ 1 < mL 183 := by decide +kernel
theorem q183_5 : qD 183 5 (.ldc 32) 2 7 ∧ cR[8]? = some ((mN 183).cls, 32, "tnmkdg", 3) := by decide +kernel
theorem q183_7 : qD 183 7 (.iload_n 1) 1 8 ∧ ((1 : Fin 4) : Nat) = 1 := by decide +kernel
theorem q183_8 : qD 183 8 (.invokestatic 148) 3 11 ∧ qI 183 148 172 1521 := by decide +kernel
theorem q183_11 : qJ 183 11 (.ifCond .eq 20) 14 (20) 31 := by decide +kernel
theorem q183_14 : qD 183 14 (.aload_n 0) 1 15 ∧ ((0 : Fin 4) : Nat) = 0 := by decide +kernel
theorem q183_15 : qD 183 15 (.dup) 1 16 := by decide +kernel
theorem q183_16 : qG 183 16 113 19 11 10 1275 0 := by decide +kernel
theorem q183_19 : qD 183 19 (.iconst 1) 1 20 ∧ Int32.ofInt (1) = (1 : Int32) := by decide +kernel
theorem q183_20 : qD 183 20 (.iadd) 1 21 := by decide +kernel
theorem q183_21 : qP 183 21 113 24 11 10 1275 0 := by decide +kernel
theorem q183_24 : qD 183 24 (.aload_n 0) 1 25 ∧ ((0 : Fin 4) : Nat) = 0 := by decide +kernel
theorem q183_25 : qG 183 25 20 28 11 4 1269 2 := by decide +kernel
theorem q183_28 : qD 183 28 (.iload_n 1) 1 29 ∧ ((1 : Fin 4) : Nat) = 1 := by decide +kernel
theorem q183_29 : qD 183 29 (.iaload) 1 30 := by decide +kernel
theorem q183_30 : qD 183 30 (.ireturn) 1 31 ∧ mR 183 = some .int := by decide +kernel
theorem q183_31 : qD 183 31 (.iload_n 1) 1 32 ∧ ((1 : Fin 4) : Nat) = 1 := by decide +kernel
theorem q183_32 : qD 183 32 (.bipush 91) 2 34 ∧ (Int8.ofInt (91)).toInt32 = (91 : Int32) := by decide +kernel
theorem q183_34 : qJ 183 34 (.if_icmp .ne 40) 37 (40) 74 := by decide +kernel
theorem q183_37 : qD 183 37 (.aload_n 0) 1 38 ∧ ((0 : Fin 4) : Nat) = 0 := by decide +kernel
theorem q183_38 : qD 183 38 (.invokevirtual 152) 3 41 ∧ qI 183 152 179 1552 := by decide +kernel
theorem q183_41 : qJ 183 41 (.ifCond .ne 5) 44 (5) 46 := by decide +kernel
theorem q183_44 : qD 183 44 (.iconst 0) 1 45 ∧ Int32.ofInt (0) = (0 : Int32) := by decide +kernel
theorem q183_45 : qD 183 45 (.ireturn) 1 46 ∧ mR 183 = some .int := by decide +kernel
theorem q183_46 : qD 183 46 (.aload_n 0) 1 47 ∧ ((0 : Fin 4) : Nat) = 0 := by decide +kernel
theorem q183_47 : qD 183 47 (.invokevirtual 155) 3 50 ∧ qI 183 155 185 1540 := by decide +kernel
theorem q183_50 : qD 183 50 (.istore_n 2) 1 51 ∧ ((2 : Fin 4) : Nat) = 2 ∧ 2 < mL 183 := by decide +kernel
theorem q183_51 : qD 183 51 (.aload_n 0) 1 52 ∧ ((0 : Fin 4) : Nat) = 0 := by decide +kernel
theorem q183_52 : qD 183 52 (.bipush 93) 2 54 ∧ (Int8.ofInt (93)).toInt32 = (93 : Int32) := by decide +kernel
theorem q183_54 : qD 183 54 (.invokevirtual 158) 3 57 ∧ qI 183 158 180 1524 := by decide +kernel
theorem q183_57 : qJ 183 57 (.ifCond .ne 5) 60 (5) 62 := by decide +kernel
theorem q183_60 : qD 183 60 (.iconst 0) 1 61 ∧ Int32.ofInt (0) = (0 : Int32) := by decide +kernel
theorem q183_61 : qD 183 61 (.ireturn) 1 62 ∧ mR 183 = some .int := by decide +kernel
theorem q183_62 : qD 183 62 (.aload_n 0) 1 63 ∧ ((0 : Fin 4) : Nat) = 0 := by decide +kernel
theorem q183_63 : qD 183 63 (.dup) 1 64 := by decide +kernel
theorem q183_64 : qG 183 64 125 67 11 12 1277 0 := by decide +kernel
theorem q183_67 : qD 183 67 (.iconst 1) 1 68 ∧ Int32.ofInt (1) = (1 : Int32) := by decide +kernel
theorem q183_68 : qD 183 68 (.isub) 1 69 := by decide +kernel
theorem q183_69 : qP 183 69 125 72 11 12 1277 0 := by decide +kernel
theorem q183_72 : qD 183 72 (.iload_n 2) 1 73 ∧ ((2 : Fin 4) : Nat) = 2 := by decide +kernel
theorem q183_73 : qD 183 73 (.ireturn) 1 74 ∧ mR 183 = some .int := by decide +kernel
theorem q183_74 : qD 183 74 (.aload_n 0) 1 75 ∧ ((0 : Fin 4) : Nat) = 0 := by decide +kernel
theorem q183_75 : qD 183 75 (.invokevirtual 162) 3 78 ∧ qI 183 162 181 1503 := by decide +kernel
theorem q183_78 : qJ 183 78 (.ifCond .ne 8) 81 (8) 86 := by decide +kernel
theorem q183_81 : qD 183 81 (.aload_n 0) 1 82 ∧ ((0 : Fin 4) : Nat) = 0 := by decide +kernel
theorem q183_82 : qD 183 82 (.invokevirtual 128) 3 85 ∧ qI 183 128 178 1457 := by decide +kernel
theorem q183_85 : qD 183 85 (.pop) 1 86 := by decide +kernel
theorem q183_86 : qD 183 86 (.iconst 0) 1 87 ∧ Int32.ofInt (0) = (0 : Int32) := by decide +kernel
theorem q183_87 : qD 183 87 (.istore_n 2) 1 88 ∧ ((2 : Fin 4) : Nat) = 2 ∧ 2 < mL 183 := by decide +kernel
theorem q183_88 : qD 183 88 (.iconst 0) 1 89 ∧ Int32.ofInt (0) = (0 : Int32) := by decide +kernel
theorem q183_89 : qD 183 89 (.istore_n 3) 1 90 ∧ ((3 : Fin 4) : Nat) = 3 ∧ 3 < mL 183 := by decide +kernel
theorem q183_90 : qD 183 90 (.aload_n 0) 1 91 ∧ ((0 : Fin 4) : Nat) = 0 := by decide +kernel
theorem q183_91 : qD 183 91 (.invokevirtual 162) 3 94 ∧ qI 183 162 181 1503 := by decide +kernel
theorem q183_94 : qJ 183 94 (.ifCond .eq 62) 97 (62) 156 := by decide +kernel
theorem q183_97 : qD 183 97 (.aload_n 0) 1 98 ∧ ((0 : Fin 4) : Nat) = 0 := by decide +kernel
theorem q183_98 : qG 183 98 122 101 11 11 1276 0 := by decide +kernel
theorem q183_101 : qD 183 101 (.iconst (-1)) 1 102 ∧ Int32.ofInt (-1) = (-1 : Int32) := by decide +kernel
theorem q183_102 : qJ 183 102 (.if_icmp .ne 54) 105 (54) 156 := by decide +kernel
theorem q183_105 : qD 183 105 (.iload_n 3) 1 106 ∧ ((3 : Fin 4) : Nat) = 3 := by decide +kernel
theorem q183_106 : qD 183 106 (.iconst 4) 1 107 ∧ Int32.ofInt (4) = (4 : Int32) := by decide +kernel
theorem q183_107 : qJ 183 107 (.if_icmp .ne 10) 110 (10) 117 := by decide +kernel
theorem q183_110 : qD 183 110 (.aload_n 0) 1 111 ∧ ((0 : Fin 4) : Nat) = 0 := by decide +kernel
theorem q183_111 : qD 183 111 (.invokevirtual 128) 3 114 ∧ qI 183 128 178 1457 := by decide +kernel
theorem q183_114 : qD 183 114 (.pop) 1 115 := by decide +kernel
theorem q183_115 : qD 183 115 (.iconst 0) 1 116 ∧ Int32.ofInt (0) = (0 : Int32) := by decide +kernel
theorem q183_116 : qD 183 116 (.ireturn) 1 117 ∧ mR 183 = some .int := by decide +kernel
theorem q183_117 : qD 183 117 (.bipush 10) 2 119 ∧ (Int8.ofInt (10)).toInt32 = (10 : Int32) := by decide +kernel
theorem q183_119 : qD 183 119 (.iload_n 2) 1 120 ∧ ((2 : Fin 4) : Nat) = 2 := by decide +kernel
theorem q183_120 : qD 183 120 (.imul) 1 121 := by decide +kernel
theorem q183_121 : qD 183 121 (.aload_n 0) 1 122 ∧ ((0 : Fin 4) : Nat) = 0 := by decide +kernel
theorem q183_122 : qG 183 122 23 125 11 5 1270 2 := by decide +kernel
theorem q183_125 : qD 183 125 (.aload_n 0) 1 126 ∧ ((0 : Fin 4) : Nat) = 0 := by decide +kernel
theorem q183_126 : qG 183 126 119 129 11 8 1273 0 := by decide +kernel
theorem q183_129 : qD 183 129 (.aload_n 0) 1 130 ∧ ((0 : Fin 4) : Nat) = 0 := by decide +kernel
theorem q183_130 : qG 183 130 113 133 11 10 1275 0 := by decide +kernel
theorem q183_133 : qD 183 133 (.iadd) 1 134 := by decide +kernel
theorem q183_134 : qD 183 134 (.baload) 1 135 := by decide +kernel
theorem q183_135 : qD 183 135 (.iadd) 1 136 := by decide +kernel
theorem q183_136 : qD 183 136 (.bipush 48) 2 138 ∧ (Int8.ofInt (48)).toInt32 = (48 : Int32) := by decide +kernel
theorem q183_138 : qD 183 138 (.isub) 1 139 := by decide +kernel
theorem q183_139 : qD 183 139 (.istore_n 2) 1 140 ∧ ((2 : Fin 4) : Nat) = 2 ∧ 2 < mL 183 := by decide +kernel
theorem q183_140 : qD 183 140 (.aload_n 0) 1 141 ∧ ((0 : Fin 4) : Nat) = 0 := by decide +kernel
theorem q183_141 : qD 183 141 (.dup) 1 142 := by decide +kernel
theorem q183_142 : qG 183 142 113 145 11 10 1275 0 := by decide +kernel
theorem q183_145 : qD 183 145 (.iconst 1) 1 146 ∧ Int32.ofInt (1) = (1 : Int32) := by decide +kernel
theorem q183_146 : qD 183 146 (.iadd) 1 147 := by decide +kernel
theorem q183_147 : qP 183 147 113 150 11 10 1275 0 := by decide +kernel
theorem q183_150 : qD 183 150 (.iinc 3 1) 3 153 ∧ 3 < mL 183 ∧ Int32.ofInt (1) = (1 : Int32) := by decide +kernel
theorem q183_153 : qJ 183 153 (.goto (-63)) 156 (-63) 90 := by decide +kernel
theorem q183_156 : qD 183 156 (.iload_n 2) 1 157 ∧ ((2 : Fin 4) : Nat) = 2 := by decide +kernel
theorem q183_157 : qD 183 157 (.ireturn) 1 158 ∧ mR 183 = some .int := by decide +kernel
theorem q184_0 : qD 184 0 (.aload_n 0) 1 1 ∧ ((0 : Fin 4) : Nat) = 0 := by decide +kernel
theorem q184_1 : qD 184 1 (.invokevirtual 165) 3 4 ∧ qI 184 165 183 1548 := by decide +kernel
theorem q184_4 : qD 184 4 (.istore_n 1) 1 5 ∧ ((1 : Fin 4) : Nat) = 1 ∧ 1 < mL 184 := by decide +kernel
theorem q184_5 : qD 184 5 (.aload_n 0) 1 6 ∧ ((0 : Fin 4) : Nat) = 0 := by decide +kernel
theorem q184_6 : qG 184 6 122 9 11 11 1276 0 := by decide +kernel
theorem q184_9 : qD 184 9 (.iconst (-1)) 1 10 ∧ Int32.ofInt (-1) = (-1 : Int32) := by decide +kernel
theorem q184_10 : qJ 184 10 (.if_icmp .ne 84) 13 (84) 94 := by decide +kernel
theorem q184_13 : qD 184 13 (.aload_n 0) 1 14 ∧ ((0 : Fin 4) : Nat) = 0 := by decide +kernel
theorem q184_14 : qD 184 14 (.invokevirtual 132) 3 17 ∧ qI 184 132 177 1453 := by decide +kernel
theorem q184_17 : qD 184 17 (.bipush 42) 2 19 ∧ (Int8.ofInt (42)).toInt32 = (42 : Int32) := by decide +kernel
theorem q184_19 : qJ 184 19 (.if_icmp .eq 12) 22 (12) 31 := by decide +kernel
theorem q184_22 : qD 184 22 (.aload_n 0) 1 23 ∧ ((0 : Fin 4) : Nat) = 0 := by decide +kernel
theorem q184_23 : qD 184 23 (.invokevirtual 132) 3 26 ∧ qI 184 132 177 1453 := by decide +kernel
theorem q184_26 : qD 184 26 (.bipush 47) 2 28 ∧ (Int8.ofInt (47)).toInt32 = (47 : Int32) := by decide +kernel
theorem q184_28 : qJ 184 28 (.if_icmp .ne 66) 31 (66) 94 := by decide +kernel
theorem q184_31 : qD 184 31 (.aload_n 0) 1 32 ∧ ((0 : Fin 4) : Nat) = 0 := by decide +kernel
theorem q184_32 : qD 184 32 (.invokevirtual 132) 3 35 ∧ qI 184 132 177 1453 := by decide +kernel
theorem q184_35 : qD 184 35 (.bipush 42) 2 37 ∧ (Int8.ofInt (42)).toInt32 = (42 : Int32) := by decide +kernel
theorem q184_37 : qJ 184 37 (.if_icmp .ne 7) 40 (7) 44 := by decide +kernel
theorem q184_40 : qD 184 40 (.iconst 1) 1 41 ∧ Int32.ofInt (1) = (1 : Int32) := by decide +kernel
theorem q184_41 : qJ 184 41 (.goto 4) 44 (4) 45 := by decide +kernel
theorem q184_44 : qD 184 44 (.iconst 0) 1 45 ∧ Int32.ofInt (0) = (0 : Int32) := by decide +kernel
theorem q184_45 : qD 184 45 (.istore_n 2) 1 46 ∧ ((2 : Fin 4) : Nat) = 2 ∧ 2 < mL 184 := by decide +kernel
theorem q184_46 : qD 184 46 (.aload_n 0) 1 47 ∧ ((0 : Fin 4) : Nat) = 0 := by decide +kernel
theorem q184_47 : qD 184 47 (.dup) 1 48 := by decide +kernel
theorem q184_48 : qG 184 48 113 51 11 10 1275 0 := by decide +kernel
theorem q184_51 : qD 184 51 (.iconst 1) 1 52 ∧ Int32.ofInt (1) = (1 : Int32) := by decide +kernel
theorem q184_52 : qD 184 52 (.iadd) 1 53 := by decide +kernel
theorem q184_53 : qP 184 53 113 56 11 10 1275 0 := by decide +kernel
theorem q184_56 : qD 184 56 (.aload_n 0) 1 57 ∧ ((0 : Fin 4) : Nat) = 0 := by decide +kernel
theorem q184_57 : qD 184 57 (.invokevirtual 165) 3 60 ∧ qI 184 165 183 1548 := by decide +kernel
theorem q184_60 : qD 184 60 (.i2l) 1 61 := by decide +kernel
theorem q184_61 : qD 184 61 (.lstore_n 3) 1 62 ∧ ((3 : Fin 4) : Nat) = 3 ∧ 3 + 1 < mL 184 := by decide +kernel
theorem q184_62 : qD 184 62 (.iload_n 2) 1 63 ∧ ((2 : Fin 4) : Nat) = 2 := by decide +kernel
theorem q184_63 : qJ 184 63 (.ifCond .eq 10) 66 (10) 73 := by decide +kernel
theorem q184_66 : qD 184 66 (.iload_n 1) 1 67 ∧ ((1 : Fin 4) : Nat) = 1 := by decide +kernel
theorem q184_67 : qD 184 67 (.i2l) 1 68 := by decide +kernel
theorem q184_68 : qD 184 68 (.lload_n 3) 1 69 ∧ ((3 : Fin 4) : Nat) = 3 := by decide +kernel
theorem q184_69 : qD 184 69 (.lmul) 1 70 := by decide +kernel
theorem q184_70 : qJ 184 70 (.goto 17) 73 (17) 87 := by decide +kernel
theorem q184_73 : qD 184 73 (.lload_n 3) 1 74 ∧ ((3 : Fin 4) : Nat) = 3 := by decide +kernel
theorem q184_74 : qD 184 74 (.lconst 0) 1 75 ∧ Int64.ofNat ((0 : Fin 2) : Nat) = 0 := by decide +kernel
theorem q184_75 : qD 184 75 (.lcmp) 1 76 := by decide +kernel
theorem q184_76 : qJ 184 76 (.ifCond .ne 7) 79 (7) 83 := by decide +kernel
theorem q184_79 : qD 184 79 (.lconst 0) 1 80 ∧ Int64.ofNat ((0 : Fin 2) : Nat) = 0 := by decide +kernel
theorem q184_80 : qJ 184 80 (.goto 7) 83 (7) 87 := by decide +kernel
theorem q184_83 : qD 184 83 (.iload_n 1) 1 84 ∧ ((1 : Fin 4) : Nat) = 1 := by decide +kernel
theorem q184_84 : qD 184 84 (.i2l) 1 85 := by decide +kernel
theorem q184_85 : qD 184 85 (.lload_n 3) 1 86 ∧ ((3 : Fin 4) : Nat) = 3 := by decide +kernel
theorem q184_86 : qD 184 86 (.ldiv) 1 87 := by decide +kernel
theorem q184_87 : qD 184 87 (.invokestatic 168) 3 90 ∧ qI 184 168 182 1556 := by decide +kernel
theorem q184_90 : qD 184 90 (.istore_n 1) 1 91 ∧ ((1 : Fin 4) : Nat) = 1 ∧ 1 < mL 184 := by decide +kernel
theorem q184_91 : qJ 184 91 (.goto (-86)) 94 (-86) 5 := by decide +kernel
theorem q184_94 : qD 184 94 (.iload_n 1) 1 95 ∧ ((1 : Fin 4) : Nat) = 1 := by decide +kernel
theorem q184_95 : qD 184 95 (.ireturn) 1 96 ∧ mR 184 = some .int := by decide +kernel
theorem q185_0 : qD 185 0 (.aload_n 0) 1 1 ∧ ((0 : Fin 4) : Nat) = 0 := by decide +kernel
theorem q185_1 : qD 185 1 (.invokevirtual 172) 3 4 ∧ qI 185 172 184 1544 := by decide +kernel
theorem q185_4 : qD 185 4 (.istore_n 1) 1 5 ∧ ((1 : Fin 4) : Nat) = 1 ∧ 1 < mL 185 := by decide +kernel
theorem q185_5 : qD 185 5 (.aload_n 0) 1 6 ∧ ((0 : Fin 4) : Nat) = 0 := by decide +kernel
theorem q185_6 : qG 185 6 122 9 11 11 1276 0 := by decide +kernel
theorem q185_9 : qD 185 9 (.iconst (-1)) 1 10 ∧ Int32.ofInt (-1) = (-1 : Int32) := by decide +kernel
theorem q185_10 : qJ 185 10 (.if_icmp .ne 74) 13 (74) 84 := by decide +kernel
theorem q185_13 : qD 185 13 (.aload_n 0) 1 14 ∧ ((0 : Fin 4) : Nat) = 0 := by decide +kernel
theorem q185_14 : qD 185 14 (.invokevirtual 132) 3 17 ∧ qI 185 132 177 1453 := by decide +kernel
theorem q185_17 : qD 185 17 (.bipush 43) 2 19 ∧ (Int8.ofInt (43)).toInt32 = (43 : Int32) := by decide +kernel
theorem q185_19 : qJ 185 19 (.if_icmp .eq 12) 22 (12) 31 := by decide +kernel
theorem q185_22 : qD 185 22 (.aload_n 0) 1 23 ∧ ((0 : Fin 4) : Nat) = 0 := by decide +kernel
theorem q185_23 : qD 185 23 (.invokevirtual 132) 3 26 ∧ qI 185 132 177 1453 := by decide +kernel
theorem q185_26 : qD 185 26 (.bipush 45) 2 28 ∧ (Int8.ofInt (45)).toInt32 = (45 : Int32) := by decide +kernel
theorem q185_28 : qJ 185 28 (.if_icmp .ne 56) 31 (56) 84 := by decide +kernel
theorem q185_31 : qD 185 31 (.aload_n 0) 1 32 ∧ ((0 : Fin 4) : Nat) = 0 := by decide +kernel
theorem q185_32 : qD 185 32 (.invokevirtual 132) 3 35 ∧ qI 185 132 177 1453 := by decide +kernel
theorem q185_35 : qD 185 35 (.bipush 43) 2 37 ∧ (Int8.ofInt (43)).toInt32 = (43 : Int32) := by decide +kernel
theorem q185_37 : qJ 185 37 (.if_icmp .ne 7) 40 (7) 44 := by decide +kernel
theorem q185_40 : qD 185 40 (.iconst 1) 1 41 ∧ Int32.ofInt (1) = (1 : Int32) := by decide +kernel
theorem q185_41 : qJ 185 41 (.goto 4) 44 (4) 45 := by decide +kernel
theorem q185_44 : qD 185 44 (.iconst 0) 1 45 ∧ Int32.ofInt (0) = (0 : Int32) := by decide +kernel
theorem q185_45 : qD 185 45 (.istore_n 2) 1 46 ∧ ((2 : Fin 4) : Nat) = 2 ∧ 2 < mL 185 := by decide +kernel
theorem q185_46 : qD 185 46 (.aload_n 0) 1 47 ∧ ((0 : Fin 4) : Nat) = 0 := by decide +kernel
theorem q185_47 : qD 185 47 (.dup) 1 48 := by decide +kernel
theorem q185_48 : qG 185 48 113 51 11 10 1275 0 := by decide +kernel
theorem q185_51 : qD 185 51 (.iconst 1) 1 52 ∧ Int32.ofInt (1) = (1 : Int32) := by decide +kernel
theorem q185_52 : qD 185 52 (.iadd) 1 53 := by decide +kernel
theorem q185_53 : qP 185 53 113 56 11 10 1275 0 := by decide +kernel
theorem q185_56 : qD 185 56 (.aload_n 0) 1 57 ∧ ((0 : Fin 4) : Nat) = 0 := by decide +kernel
theorem q185_57 : qD 185 57 (.invokevirtual 172) 3 60 ∧ qI 185 172 184 1544 := by decide +kernel
theorem q185_60 : qD 185 60 (.i2l) 1 61 := by decide +kernel
theorem q185_61 : qD 185 61 (.lstore_n 3) 1 62 ∧ ((3 : Fin 4) : Nat) = 3 ∧ 3 + 1 < mL 185 := by decide +kernel
theorem q185_62 : qD 185 62 (.iload_n 2) 1 63 ∧ ((2 : Fin 4) : Nat) = 2 := by decide +kernel
theorem q185_63 : qJ 185 63 (.ifCond .eq 10) 66 (10) 73 := by decide +kernel
theorem q185_66 : qD 185 66 (.iload_n 1) 1 67 ∧ ((1 : Fin 4) : Nat) = 1 := by decide +kernel
theorem q185_67 : qD 185 67 (.i2l) 1 68 := by decide +kernel
theorem q185_68 : qD 185 68 (.lload_n 3) 1 69 ∧ ((3 : Fin 4) : Nat) = 3 := by decide +kernel
theorem q185_69 : qD 185 69 (.ladd) 1 70 := by decide +kernel
theorem q185_70 : qJ 185 70 (.goto 7) 73 (7) 77 := by decide +kernel
theorem q185_73 : qD 185 73 (.iload_n 1) 1 74 ∧ ((1 : Fin 4) : Nat) = 1 := by decide +kernel
theorem q185_74 : qD 185 74 (.i2l) 1 75 := by decide +kernel
theorem q185_75 : qD 185 75 (.lload_n 3) 1 76 ∧ ((3 : Fin 4) : Nat) = 3 := by decide +kernel
theorem q185_76 : qD 185 76 (.lsub) 1 77 := by decide +kernel
theorem q185_77 : qD 185 77 (.invokestatic 168) 3 80 ∧ qI 185 168 182 1556 := by decide +kernel
theorem q185_80 : qD 185 80 (.istore_n 1) 1 81 ∧ ((1 : Fin 4) : Nat) = 1 ∧ 1 < mL 185 := by decide +kernel
theorem q185_81 : qJ 185 81 (.goto (-76)) 84 (-76) 5 := by decide +kernel
theorem q185_84 : qD 185 84 (.iload_n 1) 1 85 ∧ ((1 : Fin 4) : Nat) = 1 := by decide +kernel
theorem q185_85 : qD 185 85 (.ireturn) 1 86 ∧ mR 185 = some .int := by decide +kernel
theorem q186_0 : qD 186 0 (.iload_n 0) 1 1 ∧ ((0 : Fin 4) : Nat) = 0 := by decide +kernel
theorem q186_1 : qD 186 1 (.bipush 61) 2 3 ∧ (Int8.ofInt (61)).toInt32 = (61 : Int32) := by decide +kernel
theorem q186_3 : qJ 186 3 (.if_icmp .eq 15) 6 (15) 18 := by decide +kernel
theorem q186_6 : qD 186 6 (.iload_n 0) 1 7 ∧ ((0 : Fin 4) : Nat) = 0 := by decide +kernel
theorem q186_7 : qD 186 7 (.bipush 60) 2 9 ∧ (Int8.ofInt (60)).toInt32 = (60 : Int32) := by decide +kernel
theorem q186_9 : qJ 186 9 (.if_icmp .eq 9) 12 (9) 18 := by decide +kernel
theorem q186_12 : qD 186 12 (.iload_n 0) 1 13 ∧ ((0 : Fin 4) : Nat) = 0 := by decide +kernel
theorem q186_13 : qD 186 13 (.bipush 62) 2 15 ∧ (Int8.ofInt (62)).toInt32 = (62 : Int32) := by decide +kernel
theorem q186_15 : qJ 186 15 (.if_icmp .ne 7) 18 (7) 22 := by decide +kernel
theorem q186_18 : qD 186 18 (.iconst 1) 1 19 ∧ Int32.ofInt (1) = (1 : Int32) := by decide +kernel
theorem q186_19 : qJ 186 19 (.goto 4) 22 (4) 23 := by decide +kernel
theorem q186_22 : qD 186 22 (.iconst 0) 1 23 ∧ Int32.ofInt (0) = (0 : Int32) := by decide +kernel
theorem q186_23 : qD 186 23 (.ireturn) 1 24 ∧ mR 186 = some .boolean := by decide +kernel
theorem q187_0 : qD 187 0 (.iload_n 1) 1 1 ∧ ((1 : Fin 4) : Nat) = 1 := by decide +kernel
theorem q187_1 : qJ 187 1 (.ifCond .eq 7) 4 (7) 8 := by decide +kernel
theorem q187_4 : qD 187 4 (.iload_n 2) 1 5 ∧ ((2 : Fin 4) : Nat) = 2 := by decide +kernel
theorem q187_5 : qJ 187 5 (.goto 7) 8 (7) 12 := by decide +kernel
theorem q187_8 : qD 187 8 (.aload_n 0) 1 9 ∧ ((0 : Fin 4) : Nat) = 0 := by decide +kernel
theorem q187_9 : qD 187 9 (.invokevirtual 155) 3 12 ∧ qI 187 155 185 1540 := by decide +kernel
theorem q187_12 : qD 187 12 (.istore_n 3) 1 13 ∧ ((3 : Fin 4) : Nat) = 3 ∧ 3 < mL 187 := by decide +kernel
theorem q187_13 : qD 187 13 (.aload_n 0) 1 14 ∧ ((0 : Fin 4) : Nat) = 0 := by decide +kernel
theorem q187_14 : qG 187 14 122 17 11 11 1276 0 := by decide +kernel
theorem q187_17 : qD 187 17 (.iconst (-1)) 1 18 ∧ Int32.ofInt (-1) = (-1 : Int32) := by decide +kernel
theorem q187_18 : qJ 187 18 (.if_icmp .eq 5) 21 (5) 23 := by decide +kernel
theorem q187_21 : qD 187 21 (.iconst 0) 1 22 ∧ Int32.ofInt (0) = (0 : Int32) := by decide +kernel
theorem q187_22 : qD 187 22 (.ireturn) 1 23 ∧ mR 187 = some .boolean := by decide +kernel
theorem q187_23 : qD 187 23 (.aload_n 0) 1 24 ∧ ((0 : Fin 4) : Nat) = 0 := by decide +kernel
theorem q187_24 : qD 187 24 (.invokevirtual 132) 3 27 ∧ qI 187 132 177 1453 := by decide +kernel
theorem q187_27 : qD 187 27 (.istore 4) 2 29 ∧ 4 < mL 187 := by decide +kernel
theorem q187_29 : qD 187 29 (.iload 4) 2 31 := by decide +kernel
theorem q187_31 : qD 187 31 (.invokestatic 175) 3 34 ∧ qI 187 175 186 1563 := by decide +kernel
theorem q187_34 : qJ 187 34 (.ifCond .ne 8) 37 (8) 42 := by decide +kernel
theorem q187_37 : qD 187 37 (.aload_n 0) 1 38 ∧ ((0 : Fin 4) : Nat) = 0 := by decide +kernel
theorem q187_38 : qD 187 38 (.invokevirtual 128) 3 41 ∧ qI 187 128 178 1457 := by decide +kernel
theorem q187_41 : qD 187 41 (.ireturn) 1 42 ∧ mR 187 = some .boolean := by decide +kernel
theorem q187_42 : qD 187 42 (.aload_n 0) 1 43 ∧ ((0 : Fin 4) : Nat) = 0 := by decide +kernel
theorem q187_43 : qD 187 43 (.dup) 1 44 := by decide +kernel
theorem q187_44 : qG 187 44 113 47 11 10 1275 0 := by decide +kernel
theorem q187_47 : qD 187 47 (.iconst 1) 1 48 ∧ Int32.ofInt (1) = (1 : Int32) := by decide +kernel
theorem q187_48 : qD 187 48 (.iadd) 1 49 := by decide +kernel
theorem q187_49 : qP 187 49 113 52 11 10 1275 0 := by decide +kernel
theorem q187_52 : qD 187 52 (.aload_n 0) 1 53 ∧ ((0 : Fin 4) : Nat) = 0 := by decide +kernel
theorem q187_53 : qD 187 53 (.invokevirtual 155) 3 56 ∧ qI 187 155 185 1540 := by decide +kernel
theorem q187_56 : qD 187 56 (.istore 5) 2 58 ∧ 5 < mL 187 := by decide +kernel
theorem q187_58 : qD 187 58 (.iload 4) 2 60 := by decide +kernel
theorem q187_60 : qD 187 60 (.bipush 61) 2 62 ∧ (Int8.ofInt (61)).toInt32 = (61 : Int32) := by decide +kernel
theorem q187_62 : qJ 187 62 (.if_icmp .ne 17) 65 (17) 79 := by decide +kernel
theorem q187_65 : qD 187 65 (.iload_n 3) 1 66 ∧ ((3 : Fin 4) : Nat) = 3 := by decide +kernel
theorem q187_66 : qD 187 66 (.iload 5) 2 68 := by decide +kernel
theorem q187_68 : qJ 187 68 (.if_icmp .ne 7) 71 (7) 75 := by decide +kernel
theorem q187_71 : qD 187 71 (.iconst 1) 1 72 ∧ Int32.ofInt (1) = (1 : Int32) := by decide +kernel
theorem q187_72 : qJ 187 72 (.goto 39) 75 (39) 111 := by decide +kernel
theorem q187_75 : qD 187 75 (.iconst 0) 1 76 ∧ Int32.ofInt (0) = (0 : Int32) := by decide +kernel
theorem q187_76 : qJ 187 76 (.goto 35) 79 (35) 111 := by decide +kernel
theorem q187_79 : qD 187 79 (.iload 4) 2 81 := by decide +kernel
theorem q187_81 : qD 187 81 (.bipush 60) 2 83 ∧ (Int8.ofInt (60)).toInt32 = (60 : Int32) := by decide +kernel
theorem q187_83 : qJ 187 83 (.if_icmp .ne 17) 86 (17) 100 := by decide +kernel
theorem q187_86 : qD 187 86 (.iload_n 3) 1 87 ∧ ((3 : Fin 4) : Nat) = 3 := by decide +kernel
theorem q187_87 : qD 187 87 (.iload 5) 2 89 := by decide +kernel
theorem q187_89 : qJ 187 89 (.if_icmp .ge 7) 92 (7) 96 := by decide +kernel
theorem q187_92 : qD 187 92 (.iconst 1) 1 93 ∧ Int32.ofInt (1) = (1 : Int32) := by decide +kernel
theorem q187_93 : qJ 187 93 (.goto 18) 96 (18) 111 := by decide +kernel
theorem q187_96 : qD 187 96 (.iconst 0) 1 97 ∧ Int32.ofInt (0) = (0 : Int32) := by decide +kernel
theorem q187_97 : qJ 187 97 (.goto 14) 100 (14) 111 := by decide +kernel
theorem q187_100 : qD 187 100 (.iload_n 3) 1 101 ∧ ((3 : Fin 4) : Nat) = 3 := by decide +kernel
theorem q187_101 : qD 187 101 (.iload 5) 2 103 := by decide +kernel
theorem q187_103 : qJ 187 103 (.if_icmp .le 7) 106 (7) 110 := by decide +kernel
theorem q187_106 : qD 187 106 (.iconst 1) 1 107 ∧ Int32.ofInt (1) = (1 : Int32) := by decide +kernel
theorem q187_107 : qJ 187 107 (.goto 4) 110 (4) 111 := by decide +kernel
theorem q187_110 : qD 187 110 (.iconst 0) 1 111 ∧ Int32.ofInt (0) = (0 : Int32) := by decide +kernel
theorem q187_111 : qD 187 111 (.ireturn) 1 112 ∧ mR 187 = some .boolean := by decide +kernel
theorem q188_0 : qD 188 0 (.aload_n 0) 1 1 ∧ ((0 : Fin 4) : Nat) = 0 := by decide +kernel
theorem q188_1 : qD 188 1 (.invokevirtual 132) 3 4 ∧ qI 188 132 177 1453 := by decide +kernel
theorem q188_4 : qD 188 4 (.istore_n 1) 1 5 ∧ ((1 : Fin 4) : Nat) = 1 ∧ 1 < mL 188 := by decide +kernel
theorem q188_5 : qD 188 5 (.iload_n 1) 1 6 ∧ ((1 : Fin 4) : Nat) = 1 := by decide +kernel
theorem q188_6 : qD 188 6 (.bipush 33) 2 8 ∧ (Int8.ofInt (33)).toInt32 = (33 : Int32) := by decide +kernel
theorem q188_8 : qJ 188 8 (.if_icmp .ne 37) 11 (37) 45 := by decide +kernel
theorem q188_11 : qD 188 11 (.aload_n 0) 1 12 ∧ ((0 : Fin 4) : Nat) = 0 := by decide +kernel
theorem q188_12 : qD 188 12 (.invokevirtual 152) 3 15 ∧ qI 188 152 179 1552 := by decide +kernel
theorem q188_15 : qJ 188 15 (.ifCond .ne 5) 18 (5) 20 := by decide +kernel
theorem q188_18 : qD 188 18 (.iconst 0) 1 19 ∧ Int32.ofInt (0) = (0 : Int32) := by decide +kernel
theorem q188_19 : qD 188 19 (.ireturn) 1 20 ∧ mR 188 = some .boolean := by decide +kernel
theorem q188_20 : qD 188 20 (.aload_n 0) 1 21 ∧ ((0 : Fin 4) : Nat) = 0 := by decide +kernel
theorem q188_21 : qD 188 21 (.invokevirtual 178) 3 24 ∧ qI 188 178 188 1566 := by decide +kernel
theorem q188_24 : qD 188 24 (.istore_n 2) 1 25 ∧ ((2 : Fin 4) : Nat) = 2 ∧ 2 < mL 188 := by decide +kernel
theorem q188_25 : qD 188 25 (.aload_n 0) 1 26 ∧ ((0 : Fin 4) : Nat) = 0 := by decide +kernel
theorem q188_26 : qD 188 26 (.dup) 1 27 := by decide +kernel
theorem q188_27 : qG 188 27 125 30 11 12 1277 0 := by decide +kernel
theorem q188_30 : qD 188 30 (.iconst 1) 1 31 ∧ Int32.ofInt (1) = (1 : Int32) := by decide +kernel
theorem q188_31 : qD 188 31 (.isub) 1 32 := by decide +kernel
theorem q188_32 : qP 188 32 125 35 11 12 1277 0 := by decide +kernel
theorem q188_35 : qD 188 35 (.iload_n 2) 1 36 ∧ ((2 : Fin 4) : Nat) = 2 := by decide +kernel
theorem q188_36 : qJ 188 36 (.ifCond .ne 7) 39 (7) 43 := by decide +kernel
theorem q188_39 : qD 188 39 (.iconst 1) 1 40 ∧ Int32.ofInt (1) = (1 : Int32) := by decide +kernel
theorem q188_40 : qJ 188 40 (.goto 4) 43 (4) 44 := by decide +kernel
theorem q188_43 : qD 188 43 (.iconst 0) 1 44 ∧ Int32.ofInt (0) = (0 : Int32) := by decide +kernel
theorem q188_44 : qD 188 44 (.ireturn) 1 45 ∧ mR 188 = some .boolean := by decide +kernel
theorem q188_45 : qD 188 45 (.iload_n 1) 1 46 ∧ ((1 : Fin 4) : Nat) = 1 := by decide +kernel
theorem q188_46 : qD 188 46 (.bipush 40) 2 48 ∧ (Int8.ofInt (40)).toInt32 = (40 : Int32) := by decide +kernel
theorem q188_48 : qJ 188 48 (.if_icmp .ne 42) 51 (42) 90 := by decide +kernel
theorem q188_51 : qD 188 51 (.aload_n 0) 1 52 ∧ ((0 : Fin 4) : Nat) = 0 := by decide +kernel
theorem q188_52 : qD 188 52 (.invokevirtual 152) 3 55 ∧ qI 188 152 179 1552 := by decide +kernel
theorem q188_55 : qJ 188 55 (.ifCond .ne 5) 58 (5) 60 := by decide +kernel
theorem q188_58 : qD 188 58 (.iconst 0) 1 59 ∧ Int32.ofInt (0) = (0 : Int32) := by decide +kernel
theorem q188_59 : qD 188 59 (.ireturn) 1 60 ∧ mR 188 = some .boolean := by decide +kernel
theorem q188_60 : qD 188 60 (.aload_n 0) 1 61 ∧ ((0 : Fin 4) : Nat) = 0 := by decide +kernel
theorem q188_61 : qD 188 61 (.iconst 0) 1 62 ∧ Int32.ofInt (0) = (0 : Int32) := by decide +kernel
theorem q188_62 : qD 188 62 (.iconst 0) 1 63 ∧ Int32.ofInt (0) = (0 : Int32) := by decide +kernel
theorem q188_63 : qD 188 63 (.invokevirtual 181) 3 66 ∧ qI 188 181 190 1528 := by decide +kernel
theorem q188_66 : qD 188 66 (.istore_n 2) 1 67 ∧ ((2 : Fin 4) : Nat) = 2 ∧ 2 < mL 188 := by decide +kernel
theorem q188_67 : qD 188 67 (.aload_n 0) 1 68 ∧ ((0 : Fin 4) : Nat) = 0 := by decide +kernel
theorem q188_68 : qD 188 68 (.bipush 41) 2 70 ∧ (Int8.ofInt (41)).toInt32 = (41 : Int32) := by decide +kernel
theorem q188_70 : qD 188 70 (.invokevirtual 158) 3 73 ∧ qI 188 158 180 1524 := by decide +kernel
theorem q188_73 : qJ 188 73 (.ifCond .ne 5) 76 (5) 78 := by decide +kernel
theorem q188_76 : qD 188 76 (.iconst 0) 1 77 ∧ Int32.ofInt (0) = (0 : Int32) := by decide +kernel
theorem q188_77 : qD 188 77 (.ireturn) 1 78 ∧ mR 188 = some .boolean := by decide +kernel
theorem q188_78 : qD 188 78 (.aload_n 0) 1 79 ∧ ((0 : Fin 4) : Nat) = 0 := by decide +kernel
theorem q188_79 : qD 188 79 (.dup) 1 80 := by decide +kernel
theorem q188_80 : qG 188 80 125 83 11 12 1277 0 := by decide +kernel
theorem q188_83 : qD 188 83 (.iconst 1) 1 84 ∧ Int32.ofInt (1) = (1 : Int32) := by decide +kernel
theorem q188_84 : qD 188 84 (.isub) 1 85 := by decide +kernel
theorem q188_85 : qP 188 85 125 88 11 12 1277 0 := by decide +kernel
theorem q188_88 : qD 188 88 (.iload_n 2) 1 89 ∧ ((2 : Fin 4) : Nat) = 2 := by decide +kernel
theorem q188_89 : qD 188 89 (.ireturn) 1 90 ∧ mR 188 = some .boolean := by decide +kernel
theorem q188_90 : qD 188 90 (.aload_n 0) 1 91 ∧ ((0 : Fin 4) : Nat) = 0 := by decide +kernel
theorem q188_91 : qD 188 91 (.iconst 0) 1 92 ∧ Int32.ofInt (0) = (0 : Int32) := by decide +kernel
theorem q188_92 : qD 188 92 (.iconst 0) 1 93 ∧ Int32.ofInt (0) = (0 : Int32) := by decide +kernel
theorem q188_93 : qD 188 93 (.invokevirtual 185) 3 96 ∧ qI 188 185 187 1536 := by decide +kernel
theorem q188_96 : qD 188 96 (.ireturn) 1 97 ∧ mR 188 = some .boolean := by decide +kernel
theorem q189_0 : qD 189 0 (.iload_n 1) 1 1 ∧ ((1 : Fin 4) : Nat) = 1 := by decide +kernel
theorem q189_1 : qJ 189 1 (.ifCond .eq 12) 4 (12) 13 := by decide +kernel
theorem q189_4 : qD 189 4 (.aload_n 0) 1 5 ∧ ((0 : Fin 4) : Nat) = 0 := by decide +kernel
theorem q189_5 : qD 189 5 (.iconst 1) 1 6 ∧ Int32.ofInt (1) = (1 : Int32) := by decide +kernel
theorem q189_6 : qD 189 6 (.iload_n 2) 1 7 ∧ ((2 : Fin 4) : Nat) = 2 := by decide +kernel
theorem q189_7 : qD 189 7 (.invokevirtual 185) 3 10 ∧ qI 189 185 187 1536 := by decide +kernel
theorem q189_10 : qJ 189 10 (.goto 7) 13 (7) 17 := by decide +kernel
theorem q189_13 : qD 189 13 (.aload_n 0) 1 14 ∧ ((0 : Fin 4) : Nat) = 0 := by decide +kernel
theorem q189_14 : qD 189 14 (.invokevirtual 178) 3 17 ∧ qI 189 178 188 1566 := by decide +kernel
theorem q189_17 : qD 189 17 (.istore_n 3) 1 18 ∧ ((3 : Fin 4) : Nat) = 3 ∧ 3 < mL 189 := by decide +kernel
theorem q189_18 : qD 189 18 (.aload_n 0) 1 19 ∧ ((0 : Fin 4) : Nat) = 0 := by decide +kernel
theorem q189_19 : qG 189 19 122 22 11 11 1276 0 := by decide +kernel
theorem q189_22 : qD 189 22 (.iconst (-1)) 1 23 ∧ Int32.ofInt (-1) = (-1 : Int32) := by decide +kernel
theorem q189_23 : qJ 189 23 (.if_icmp .ne 46) 26 (46) 69 := by decide +kernel
theorem q189_26 : qD 189 26 (.aload_n 0) 1 27 ∧ ((0 : Fin 4) : Nat) = 0 := by decide +kernel
theorem q189_27 : qD 189 27 (.invokevirtual 132) 3 30 ∧ qI 189 132 177 1453 := by decide +kernel
theorem q189_30 : qD 189 30 (.bipush 38) 2 32 ∧ (Int8.ofInt (38)).toInt32 = (38 : Int32) := by decide +kernel
theorem q189_32 : qJ 189 32 (.if_icmp .ne 37) 35 (37) 69 := by decide +kernel
theorem q189_35 : qD 189 35 (.aload_n 0) 1 36 ∧ ((0 : Fin 4) : Nat) = 0 := by decide +kernel
theorem q189_36 : qD 189 36 (.dup) 1 37 := by decide +kernel
theorem q189_37 : qG 189 37 113 40 11 10 1275 0 := by decide +kernel
theorem q189_40 : qD 189 40 (.iconst 1) 1 41 ∧ Int32.ofInt (1) = (1 : Int32) := by decide +kernel
theorem q189_41 : qD 189 41 (.iadd) 1 42 := by decide +kernel
theorem q189_42 : qP 189 42 113 45 11 10 1275 0 := by decide +kernel
theorem q189_45 : qD 189 45 (.aload_n 0) 1 46 ∧ ((0 : Fin 4) : Nat) = 0 := by decide +kernel
theorem q189_46 : qD 189 46 (.invokevirtual 178) 3 49 ∧ qI 189 178 188 1566 := by decide +kernel
theorem q189_49 : qD 189 49 (.istore 4) 2 51 ∧ 4 < mL 189 := by decide +kernel
theorem q189_51 : qD 189 51 (.iload_n 3) 1 52 ∧ ((3 : Fin 4) : Nat) = 3 := by decide +kernel
theorem q189_52 : qJ 189 52 (.ifCond .eq 12) 55 (12) 64 := by decide +kernel
theorem q189_55 : qD 189 55 (.iload 4) 2 57 := by decide +kernel
theorem q189_57 : qJ 189 57 (.ifCond .eq 7) 60 (7) 64 := by decide +kernel
theorem q189_60 : qD 189 60 (.iconst 1) 1 61 ∧ Int32.ofInt (1) = (1 : Int32) := by decide +kernel
theorem q189_61 : qJ 189 61 (.goto 4) 64 (4) 65 := by decide +kernel
theorem q189_64 : qD 189 64 (.iconst 0) 1 65 ∧ Int32.ofInt (0) = (0 : Int32) := by decide +kernel
theorem q189_65 : qD 189 65 (.istore_n 3) 1 66 ∧ ((3 : Fin 4) : Nat) = 3 ∧ 3 < mL 189 := by decide +kernel
theorem q189_66 : qJ 189 66 (.goto (-48)) 69 (-48) 18 := by decide +kernel
theorem q189_69 : qD 189 69 (.iload_n 3) 1 70 ∧ ((3 : Fin 4) : Nat) = 3 := by decide +kernel
theorem q189_70 : qD 189 70 (.ireturn) 1 71 ∧ mR 189 = some .boolean := by decide +kernel
theorem q190_0 : qD 190 0 (.aload_n 0) 1 1 ∧ ((0 : Fin 4) : Nat) = 0 := by decide +kernel
theorem q190_1 : qD 190 1 (.iload_n 1) 1 2 ∧ ((1 : Fin 4) : Nat) = 1 := by decide +kernel
theorem q190_2 : qD 190 2 (.iload_n 2) 1 3 ∧ ((2 : Fin 4) : Nat) = 2 := by decide +kernel
theorem q190_3 : qD 190 3 (.invokevirtual 188) 3 6 ∧ qI 190 188 189 1532 := by decide +kernel
theorem q190_6 : qD 190 6 (.istore_n 3) 1 7 ∧ ((3 : Fin 4) : Nat) = 3 ∧ 3 < mL 190 := by decide +kernel
theorem q190_7 : qD 190 7 (.aload_n 0) 1 8 ∧ ((0 : Fin 4) : Nat) = 0 := by decide +kernel
theorem q190_8 : qG 190 8 122 11 11 11 1276 0 := by decide +kernel
theorem q190_11 : qD 190 11 (.iconst (-1)) 1 12 ∧ Int32.ofInt (-1) = (-1 : Int32) := by decide +kernel
theorem q190_12 : qJ 190 12 (.if_icmp .ne 48) 15 (48) 60 := by decide +kernel
theorem q190_15 : qD 190 15 (.aload_n 0) 1 16 ∧ ((0 : Fin 4) : Nat) = 0 := by decide +kernel
theorem q190_16 : qD 190 16 (.invokevirtual 132) 3 19 ∧ qI 190 132 177 1453 := by decide +kernel
theorem q190_19 : qD 190 19 (.bipush 124) 2 21 ∧ (Int8.ofInt (124)).toInt32 = (124 : Int32) := by decide +kernel
theorem q190_21 : qJ 190 21 (.if_icmp .ne 39) 24 (39) 60 := by decide +kernel
theorem q190_24 : qD 190 24 (.aload_n 0) 1 25 ∧ ((0 : Fin 4) : Nat) = 0 := by decide +kernel
theorem q190_25 : qD 190 25 (.dup) 1 26 := by decide +kernel
theorem q190_26 : qG 190 26 113 29 11 10 1275 0 := by decide +kernel
theorem q190_29 : qD 190 29 (.iconst 1) 1 30 ∧ Int32.ofInt (1) = (1 : Int32) := by decide +kernel
theorem q190_30 : qD 190 30 (.iadd) 1 31 := by decide +kernel
theorem q190_31 : qP 190 31 113 34 11 10 1275 0 := by decide +kernel
theorem q190_34 : qD 190 34 (.aload_n 0) 1 35 ∧ ((0 : Fin 4) : Nat) = 0 := by decide +kernel
theorem q190_35 : qD 190 35 (.iconst 0) 1 36 ∧ Int32.ofInt (0) = (0 : Int32) := by decide +kernel
theorem q190_36 : qD 190 36 (.iconst 0) 1 37 ∧ Int32.ofInt (0) = (0 : Int32) := by decide +kernel
theorem q190_37 : qD 190 37 (.invokevirtual 188) 3 40 ∧ qI 190 188 189 1532 := by decide +kernel
theorem q190_40 : qD 190 40 (.istore 4) 2 42 ∧ 4 < mL 190 := by decide +kernel
theorem q190_42 : qD 190 42 (.iload_n 3) 1 43 ∧ ((3 : Fin 4) : Nat) = 3 := by decide +kernel
theorem q190_43 : qJ 190 43 (.ifCond .ne 8) 46 (8) 51 := by decide +kernel
theorem q190_46 : qD 190 46 (.iload 4) 2 48 := by decide +kernel
theorem q190_48 : qJ 190 48 (.ifCond .eq 7) 51 (7) 55 := by decide +kernel
theorem q190_51 : qD 190 51 (.iconst 1) 1 52 ∧ Int32.ofInt (1) = (1 : Int32) := by decide +kernel
theorem q190_52 : qJ 190 52 (.goto 4) 55 (4) 56 := by decide +kernel
theorem q190_55 : qD 190 55 (.iconst 0) 1 56 ∧ Int32.ofInt (0) = (0 : Int32) := by decide +kernel
theorem q190_56 : qD 190 56 (.istore_n 3) 1 57 ∧ ((3 : Fin 4) : Nat) = 3 ∧ 3 < mL 190 := by decide +kernel
theorem q190_57 : qJ 190 57 (.goto (-50)) 60 (-50) 7 := by decide +kernel
theorem q190_60 : qD 190 60 (.iload_n 3) 1 61 ∧ ((3 : Fin 4) : Nat) = 3 := by decide +kernel
theorem q190_61 : qD 190 61 (.ireturn) 1 62 ∧ mR 190 = some .boolean := by decide +kernel
theorem q191_0 : qD 191 0 (.aload_n 0) 1 1 ∧ ((0 : Fin 4) : Nat) = 0 := by decide +kernel
theorem q191_1 : qD 191 1 (.invokevirtual 132) 3 4 ∧ qI 191 132 177 1453 := by decide +kernel
theorem q191_4 : qD 191 4 (.istore_n 1) 1 5 ∧ ((1 : Fin 4) : Nat) = 1 ∧ 1 < mL 191 := by decide +kernel
theorem q191_5 : qD 191 5 (.ldc 26) 2 7 ∧ cR[7]? = some ((mN 191).cls, 26, "y", 5) := by decide +kernel
theorem q191_7 : qD 191 7 (.iload_n 1) 1 8 ∧ ((1 : Fin 4) : Nat) = 1 := by decide +kernel
theorem q191_8 : qD 191 8 (.invokestatic 148) 3 11 ∧ qI 191 148 172 1521 := by decide +kernel
theorem q191_11 : qJ 191 11 (.ifCond .ne 9) 14 (9) 20 := by decide +kernel
theorem q191_14 : qD 191 14 (.aload_n 0) 1 15 ∧ ((0 : Fin 4) : Nat) = 0 := by decide +kernel
theorem q191_15 : qD 191 15 (.invokevirtual 128) 3 18 ∧ qI 191 128 178 1457 := by decide +kernel
theorem q191_18 : qD 191 18 (.pop) 1 19 := by decide +kernel
theorem q191_19 : qD 191 19 (.return_) 1 20 ∧ mR 191 = none := by decide +kernel
theorem q191_20 : qD 191 20 (.aload_n 0) 1 21 ∧ ((0 : Fin 4) : Nat) = 0 := by decide +kernel
theorem q191_21 : qD 191 21 (.dup) 1 22 := by decide +kernel
theorem q191_22 : qG 191 22 113 25 11 10 1275 0 := by decide +kernel
theorem q191_25 : qD 191 25 (.iconst 1) 1 26 ∧ Int32.ofInt (1) = (1 : Int32) := by decide +kernel
theorem q191_26 : qD 191 26 (.iadd) 1 27 := by decide +kernel
theorem q191_27 : qP 191 27 113 30 11 10 1275 0 := by decide +kernel
theorem q191_30 : qD 191 30 (.aload_n 0) 1 31 ∧ ((0 : Fin 4) : Nat) = 0 := by decide +kernel
theorem q191_31 : qD 191 31 (.bipush 58) 2 33 ∧ (Int8.ofInt (58)).toInt32 = (58 : Int32) := by decide +kernel
theorem q191_33 : qD 191 33 (.invokevirtual 158) 3 36 ∧ qI 191 158 180 1524 := by decide +kernel
theorem q191_36 : qJ 191 36 (.ifCond .ne 4) 39 (4) 40 := by decide +kernel
theorem q191_39 : qD 191 39 (.return_) 1 40 ∧ mR 191 = none := by decide +kernel
theorem q191_40 : qD 191 40 (.iconst 1) 1 41 ∧ Int32.ofInt (1) = (1 : Int32) := by decide +kernel
theorem q191_41 : qD 191 41 (.istore_n 2) 1 42 ∧ ((2 : Fin 4) : Nat) = 2 ∧ 2 < mL 191 := by decide +kernel
theorem q191_42 : qD 191 42 (.iconst 0) 1 43 ∧ Int32.ofInt (0) = (0 : Int32) := by decide +kernel
theorem q191_43 : qD 191 43 (.istore_n 3) 1 44 ∧ ((3 : Fin 4) : Nat) = 3 ∧ 3 < mL 191 := by decide +kernel
theorem q191_44 : qD 191 44 (.aload_n 0) 1 45 ∧ ((0 : Fin 4) : Nat) = 0 := by decide +kernel
theorem q191_45 : qD 191 45 (.invokevirtual 132) 3 48 ∧ qI 191 132 177 1453 := by decide +kernel
theorem q191_48 : qD 191 48 (.istore 4) 2 50 ∧ 4 < mL 191 := by decide +kernel
theorem q191_50 : qD 191 50 (.iload 4) 2 52 := by decide +kernel
theorem q191_52 : qD 191 52 (.bipush 33) 2 54 ∧ (Int8.ofInt (33)).toInt32 = (33 : Int32) := by decide +kernel
theorem q191_54 : qJ 191 54 (.if_icmp .eq 10) 57 (10) 64 := by decide +kernel
theorem q191_57 : qD 191 57 (.iload 4) 2 59 := by decide +kernel
theorem q191_59 : qD 191 59 (.bipush 40) 2 61 ∧ (Int8.ofInt (40)).toInt32 = (40 : Int32) := by decide +kernel
theorem q191_61 : qJ 191 61 (.if_icmp .ne 28) 64 (28) 89 := by decide +kernel
theorem q191_64 : qD 191 64 (.aload_n 0) 1 65 ∧ ((0 : Fin 4) : Nat) = 0 := by decide +kernel
theorem q191_65 : qD 191 65 (.iconst 0) 1 66 ∧ Int32.ofInt (0) = (0 : Int32) := by decide +kernel
theorem q191_66 : qD 191 66 (.iconst 0) 1 67 ∧ Int32.ofInt (0) = (0 : Int32) := by decide +kernel
theorem q191_67 : qD 191 67 (.invokevirtual 181) 3 70 ∧ qI 191 181 190 1528 := by decide +kernel
theorem q191_70 : qD 191 70 (.istore_n 2) 1 71 ∧ ((2 : Fin 4) : Nat) = 2 ∧ 2 < mL 191 := by decide +kernel
theorem q191_71 : qD 191 71 (.aload_n 0) 1 72 ∧ ((0 : Fin 4) : Nat) = 0 := by decide +kernel
theorem q191_72 : qD 191 72 (.bipush 63) 2 74 ∧ (Int8.ofInt (63)).toInt32 = (63 : Int32) := by decide +kernel
theorem q191_74 : qD 191 74 (.invokevirtual 158) 3 77 ∧ qI 191 158 180 1524 := by decide +kernel
theorem q191_77 : qJ 191 77 (.ifCond .ne 4) 80 (4) 81 := by decide +kernel
theorem q191_80 : qD 191 80 (.return_) 1 81 ∧ mR 191 = none := by decide +kernel
theorem q191_81 : qD 191 81 (.aload_n 0) 1 82 ∧ ((0 : Fin 4) : Nat) = 0 := by decide +kernel
theorem q191_82 : qD 191 82 (.invokevirtual 155) 3 85 ∧ qI 191 155 185 1540 := by decide +kernel
theorem q191_85 : qD 191 85 (.istore_n 3) 1 86 ∧ ((3 : Fin 4) : Nat) = 3 ∧ 3 < mL 191 := by decide +kernel
theorem q191_86 : qJ 191 86 (.goto 48) 89 (48) 134 := by decide +kernel
theorem q191_89 : qD 191 89 (.aload_n 0) 1 90 ∧ ((0 : Fin 4) : Nat) = 0 := by decide +kernel
theorem q191_90 : qD 191 90 (.invokevirtual 155) 3 93 ∧ qI 191 155 185 1540 := by decide +kernel
theorem q191_93 : qD 191 93 (.istore_n 3) 1 94 ∧ ((3 : Fin 4) : Nat) = 3 ∧ 3 < mL 191 := by decide +kernel
theorem q191_94 : qD 191 94 (.aload_n 0) 1 95 ∧ ((0 : Fin 4) : Nat) = 0 := by decide +kernel
theorem q191_95 : qG 191 95 122 98 11 11 1276 0 := by decide +kernel
theorem q191_98 : qD 191 98 (.iconst (-1)) 1 99 ∧ Int32.ofInt (-1) = (-1 : Int32) := by decide +kernel
theorem q191_99 : qJ 191 99 (.if_icmp .ne 35) 102 (35) 134 := by decide +kernel
theorem q191_102 : qD 191 102 (.aload_n 0) 1 103 ∧ ((0 : Fin 4) : Nat) = 0 := by decide +kernel
theorem q191_103 : qD 191 103 (.invokevirtual 132) 3 106 ∧ qI 191 132 177 1453 := by decide +kernel
theorem q191_106 : qD 191 106 (.invokestatic 175) 3 109 ∧ qI 191 175 186 1563 := by decide +kernel
theorem q191_109 : qJ 191 109 (.ifCond .eq 25) 112 (25) 134 := by decide +kernel
theorem q191_112 : qD 191 112 (.aload_n 0) 1 113 ∧ ((0 : Fin 4) : Nat) = 0 := by decide +kernel
theorem q191_113 : qD 191 113 (.iconst 1) 1 114 ∧ Int32.ofInt (1) = (1 : Int32) := by decide +kernel
theorem q191_114 : qD 191 114 (.iload_n 3) 1 115 ∧ ((3 : Fin 4) : Nat) = 3 := by decide +kernel
theorem q191_115 : qD 191 115 (.invokevirtual 181) 3 118 ∧ qI 191 181 190 1528 := by decide +kernel
theorem q191_118 : qD 191 118 (.istore_n 2) 1 119 ∧ ((2 : Fin 4) : Nat) = 2 ∧ 2 < mL 191 := by decide +kernel
theorem q191_119 : qD 191 119 (.aload_n 0) 1 120 ∧ ((0 : Fin 4) : Nat) = 0 := by decide +kernel
theorem q191_120 : qD 191 120 (.bipush 63) 2 122 ∧ (Int8.ofInt (63)).toInt32 = (63 : Int32) := by decide +kernel
theorem q191_122 : qD 191 122 (.invokevirtual 158) 3 125 ∧ qI 191 158 180 1524 := by decide +kernel
theorem q191_125 : qJ 191 125 (.ifCond .ne 4) 128 (4) 129 := by decide +kernel
theorem q191_128 : qD 191 128 (.return_) 1 129 ∧ mR 191 = none := by decide +kernel
theorem q191_129 : qD 191 129 (.aload_n 0) 1 130 ∧ ((0 : Fin 4) : Nat) = 0 := by decide +kernel
theorem q191_130 : qD 191 130 (.invokevirtual 155) 3 133 ∧ qI 191 155 185 1540 := by decide +kernel
theorem q191_133 : qD 191 133 (.istore_n 3) 1 134 ∧ ((3 : Fin 4) : Nat) = 3 ∧ 3 < mL 191 := by decide +kernel
theorem q191_134 : qD 191 134 (.aload_n 0) 1 135 ∧ ((0 : Fin 4) : Nat) = 0 := by decide +kernel
theorem q191_135 : qG 191 135 122 138 11 11 1276 0 := by decide +kernel
theorem q191_138 : qD 191 138 (.iconst (-1)) 1 139 ∧ Int32.ofInt (-1) = (-1 : Int32) := by decide +kernel
theorem q191_139 : qJ 191 139 (.if_icmp .ne 22) 142 (22) 161 := by decide +kernel
theorem q191_142 : qD 191 142 (.aload_n 0) 1 143 ∧ ((0 : Fin 4) : Nat) = 0 := by decide +kernel
theorem q191_143 : qG 191 143 191 146 11 17 1282 0 := by decide +kernel
theorem q191_146 : qJ 191 146 (.ifCond .ne 15) 149 (15) 161 := by decide +kernel
theorem q191_149 : qD 191 149 (.iload_n 1) 1 150 ∧ ((1 : Fin 4) : Nat) = 1 := by decide +kernel
theorem q191_150 : qD 191 150 (.aload_n 0) 1 151 ∧ ((0 : Fin 4) : Nat) = 0 := by decide +kernel
theorem q191_151 : qG 191 151 195 154 11 13 1278 0 := by decide +kernel
theorem q191_154 : qJ 191 154 (.if_icmp .ne 7) 157 (7) 161 := by decide +kernel
theorem q191_157 : qD 191 157 (.iload_n 2) 1 158 ∧ ((2 : Fin 4) : Nat) = 2 := by decide +kernel
theorem q191_158 : qJ 191 158 (.ifCond .ne 4) 161 (4) 162 := by decide +kernel
theorem q191_161 : qD 191 161 (.return_) 1 162 ∧ mR 191 = none := by decide +kernel
theorem q191_162 : qD 191 162 (.aload_n 0) 1 163 ∧ ((0 : Fin 4) : Nat) = 0 := by decide +kernel
theorem q191_163 : qD 191 163 (.iconst 1) 1 164 ∧ Int32.ofInt (1) = (1 : Int32) := by decide +kernel
theorem q191_164 : qP 191 164 191 167 11 17 1282 0 := by decide +kernel
theorem q191_167 : qD 191 167 (.aload_n 0) 1 168 ∧ ((0 : Fin 4) : Nat) = 0 := by decide +kernel
theorem q191_168 : qD 191 168 (.iload_n 3) 1 169 ∧ ((3 : Fin 4) : Nat) = 3 := by decide +kernel
theorem q191_169 : qP 191 169 198 172 11 14 1279 0 := by decide +kernel
theorem q191_172 : qD 191 172 (.return_) 1 173 ∧ mR 191 = none := by decide +kernel
theorem q192_0 : qD 192 0 (.aload_n 0) 1 1 ∧ ((0 : Fin 4) : Nat) = 0 := by decide +kernel
theorem q192_1 : qD 192 1 (.aload_n 1) 1 2 ∧ ((1 : Fin 4) : Nat) = 1 := by decide +kernel
theorem q192_2 : qP 192 2 23 5 11 5 1270 2 := by decide +kernel
theorem q192_5 : qD 192 5 (.aload_n 0) 1 6 ∧ ((0 : Fin 4) : Nat) = 0 := by decide +kernel
theorem q192_6 : qD 192 6 (.iload_n 2) 1 7 ∧ ((2 : Fin 4) : Nat) = 2 := by decide +kernel
theorem q192_7 : qP 192 7 119 10 11 8 1273 0 := by decide +kernel
theorem q192_10 : qD 192 10 (.aload_n 0) 1 11 ∧ ((0 : Fin 4) : Nat) = 0 := by decide +kernel
theorem q192_11 : qD 192 11 (.iload_n 3) 1 12 ∧ ((3 : Fin 4) : Nat) = 3 := by decide +kernel
theorem q192_12 : qP 192 12 116 15 11 9 1274 0 := by decide +kernel
theorem q192_15 : qD 192 15 (.aload_n 0) 1 16 ∧ ((0 : Fin 4) : Nat) = 0 := by decide +kernel
theorem q192_16 : qD 192 16 (.iconst 0) 1 17 ∧ Int32.ofInt (0) = (0 : Int32) := by decide +kernel
theorem q192_17 : qP 192 17 113 20 11 10 1275 0 := by decide +kernel
theorem q192_20 : qD 192 20 (.aload_n 0) 1 21 ∧ ((0 : Fin 4) : Nat) = 0 := by decide +kernel
theorem q192_21 : qD 192 21 (.iconst (-1)) 1 22 ∧ Int32.ofInt (-1) = (-1 : Int32) := by decide +kernel
theorem q192_22 : qP 192 22 122 25 11 11 1276 0 := by decide +kernel
theorem q192_25 : qD 192 25 (.return_) 1 26 ∧ mR 192 = none := by decide +kernel
theorem q193_0 : qD 193 0 (.aload_n 0) 1 1 ∧ ((0 : Fin 4) : Nat) = 0 := by decide +kernel
theorem q193_1 : qD 193 1 (.aload_n 1) 1 2 ∧ ((1 : Fin 4) : Nat) = 1 := by decide +kernel
theorem q193_2 : qD 193 2 (.iload_n 2) 1 3 ∧ ((2 : Fin 4) : Nat) = 2 := by decide +kernel
theorem q193_3 : qD 193 3 (.iload_n 3) 1 4 ∧ ((3 : Fin 4) : Nat) = 3 := by decide +kernel
theorem q193_4 : qD 193 4 (.invokevirtual 201) 3 7 ∧ qI 193 201 192 1442 := by decide +kernel
theorem q193_7 : qD 193 7 (.aload_n 0) 1 8 ∧ ((0 : Fin 4) : Nat) = 0 := by decide +kernel
theorem q193_8 : qD 193 8 (.bipush 121) 2 10 ∧ (Int8.ofInt (121)).toInt32 = (121 : Int32) := by decide +kernel
theorem q193_10 : qP 193 10 195 13 11 13 1278 0 := by decide +kernel
theorem q193_13 : qD 193 13 (.aload_n 0) 1 14 ∧ ((0 : Fin 4) : Nat) = 0 := by decide +kernel
theorem q193_14 : qD 193 14 (.iconst 0) 1 15 ∧ Int32.ofInt (0) = (0 : Int32) := by decide +kernel
theorem q193_15 : qP 193 15 125 18 11 12 1277 0 := by decide +kernel
theorem q193_18 : qD 193 18 (.aload_n 0) 1 19 ∧ ((0 : Fin 4) : Nat) = 0 := by decide +kernel
theorem q193_19 : qD 193 19 (.iconst 0) 1 20 ∧ Int32.ofInt (0) = (0 : Int32) := by decide +kernel
theorem q193_20 : qP 193 20 191 23 11 17 1282 0 := by decide +kernel
theorem q193_23 : qD 193 23 (.aload_n 0) 1 24 ∧ ((0 : Fin 4) : Nat) = 0 := by decide +kernel
theorem q193_24 : qD 193 24 (.iconst 0) 1 25 ∧ Int32.ofInt (0) = (0 : Int32) := by decide +kernel
theorem q193_25 : qP 193 25 198 28 11 14 1279 0 := by decide +kernel
theorem q193_28 : qD 193 28 (.aload_n 0) 1 29 ∧ ((0 : Fin 4) : Nat) = 0 := by decide +kernel
theorem q193_29 : qD 193 29 (.invokevirtual 205) 3 32 ∧ qI 193 205 191 1517 := by decide +kernel
theorem q193_32 : qD 193 32 (.aload_n 0) 1 33 ∧ ((0 : Fin 4) : Nat) = 0 := by decide +kernel
theorem q193_33 : qG 193 33 122 36 11 11 1276 0 := by decide +kernel
theorem q193_36 : qD 193 36 (.iconst (-1)) 1 37 ∧ Int32.ofInt (-1) = (-1 : Int32) := by decide +kernel
theorem q193_37 : qJ 193 37 (.if_icmp .ne 29) 40 (29) 66 := by decide +kernel
theorem q193_40 : qD 193 40 (.aload_n 0) 1 41 ∧ ((0 : Fin 4) : Nat) = 0 := by decide +kernel
theorem q193_41 : qD 193 41 (.invokevirtual 132) 3 44 ∧ qI 193 132 177 1453 := by decide +kernel
theorem q193_44 : qD 193 44 (.bipush 59) 2 46 ∧ (Int8.ofInt (59)).toInt32 = (59 : Int32) := by decide +kernel
theorem q193_46 : qJ 193 46 (.if_icmp .ne 20) 49 (20) 66 := by decide +kernel
theorem q193_49 : qD 193 49 (.aload_n 0) 1 50 ∧ ((0 : Fin 4) : Nat) = 0 := by decide +kernel
theorem q193_50 : qD 193 50 (.dup) 1 51 := by decide +kernel
theorem q193_51 : qG 193 51 113 54 11 10 1275 0 := by decide +kernel
theorem q193_54 : qD 193 54 (.iconst 1) 1 55 ∧ Int32.ofInt (1) = (1 : Int32) := by decide +kernel
theorem q193_55 : qD 193 55 (.iadd) 1 56 := by decide +kernel
theorem q193_56 : qP 193 56 113 59 11 10 1275 0 := by decide +kernel
theorem q193_59 : qD 193 59 (.aload_n 0) 1 60 ∧ ((0 : Fin 4) : Nat) = 0 := by decide +kernel
theorem q193_60 : qD 193 60 (.invokevirtual 205) 3 63 ∧ qI 193 205 191 1517 := by decide +kernel
theorem q193_63 : qJ 193 63 (.goto (-31)) 66 (-31) 32 := by decide +kernel
theorem q193_66 : qD 193 66 (.aload_n 0) 1 67 ∧ ((0 : Fin 4) : Nat) = 0 := by decide +kernel
theorem q193_67 : qG 193 67 122 70 11 11 1276 0 := by decide +kernel
theorem q193_70 : qD 193 70 (.iconst (-1)) 1 71 ∧ Int32.ofInt (-1) = (-1 : Int32) := by decide +kernel
theorem q193_71 : qJ 193 71 (.if_icmp .ne 16) 74 (16) 87 := by decide +kernel
theorem q193_74 : qD 193 74 (.aload_n 0) 1 75 ∧ ((0 : Fin 4) : Nat) = 0 := by decide +kernel
theorem q193_75 : qD 193 75 (.invokevirtual 132) 3 78 ∧ qI 193 132 177 1453 := by decide +kernel
theorem q193_78 : qD 193 78 (.iconst (-1)) 1 79 ∧ Int32.ofInt (-1) = (-1 : Int32) := by decide +kernel
theorem q193_79 : qJ 193 79 (.if_icmp .eq 8) 82 (8) 87 := by decide +kernel
theorem q193_82 : qD 193 82 (.aload_n 0) 1 83 ∧ ((0 : Fin 4) : Nat) = 0 := by decide +kernel
theorem q193_83 : qD 193 83 (.invokevirtual 128) 3 86 ∧ qI 193 128 178 1457 := by decide +kernel
theorem q193_86 : qD 193 86 (.pop) 1 87 := by decide +kernel
theorem q193_87 : qD 193 87 (.return_) 1 88 ∧ mR 193 = none := by decide +kernel
theorem q194_0 : qD 194 0 (.aload_n 0) 1 1 ∧ ((0 : Fin 4) : Nat) = 0 := by decide +kernel
theorem q194_1 : qG 194 1 113 4 11 10 1275 0 := by decide +kernel
theorem q194_4 : qD 194 4 (.aload_n 0) 1 5 ∧ ((0 : Fin 4) : Nat) = 0 := by decide +kernel
theorem q194_5 : qG 194 5 116 8 11 9 1274 0 := by decide +kernel
theorem q194_8 : qJ 194 8 (.if_icmp .ge 24) 11 (24) 32 := by decide +kernel
theorem q194_11 : qD 194 11 (.aload_n 0) 1 12 ∧ ((0 : Fin 4) : Nat) = 0 := by decide +kernel
theorem q194_12 : qG 194 12 23 15 11 5 1270 2 := by decide +kernel
theorem q194_15 : qD 194 15 (.aload_n 0) 1 16 ∧ ((0 : Fin 4) : Nat) = 0 := by decide +kernel
theorem q194_16 : qG 194 16 119 19 11 8 1273 0 := by decide +kernel
theorem q194_19 : qD 194 19 (.aload_n 0) 1 20 ∧ ((0 : Fin 4) : Nat) = 0 := by decide +kernel
theorem q194_20 : qG 194 20 113 23 11 10 1275 0 := by decide +kernel
theorem q194_23 : qD 194 23 (.iadd) 1 24 := by decide +kernel
theorem q194_24 : qD 194 24 (.baload) 1 25 := by decide +kernel
theorem q194_25 : qD 194 25 (.sipush 255) 3 28 ∧ (Int16.ofInt (255)).toInt32 = (255 : Int32) := by decide +kernel
theorem q194_28 : qD 194 28 (.iand) 1 29 := by decide +kernel
theorem q194_29 : qJ 194 29 (.goto 4) 32 (4) 33 := by decide +kernel
theorem q194_32 : qD 194 32 (.iconst (-1)) 1 33 ∧ Int32.ofInt (-1) = (-1 : Int32) := by decide +kernel
theorem q194_33 : qD 194 33 (.ireturn) 1 34 ∧ mR 194 = some .int := by decide +kernel
theorem q195_0 : qD 195 0 (.iconst 0) 1 1 ∧ Int32.ofInt (0) = (0 : Int32) := by decide +kernel
theorem q195_1 : qD 195 1 (.istore_n 2) 1 2 ∧ ((2 : Fin 4) : Nat) = 2 ∧ 2 < mL 195 := by decide +kernel
theorem q195_2 : qD 195 2 (.iload_n 2) 1 3 ∧ ((2 : Fin 4) : Nat) = 2 := by decide +kernel
theorem q195_3 : qD 195 3 (.aload_n 0) 1 4 ∧ ((0 : Fin 4) : Nat) = 0 := by decide +kernel
theorem q195_4 : qD 195 4 (.invokevirtual 93) 3 7 ∧ inG 1466 (.methodLink (mN 195).cls 93 (mN 301)) ∧ mL 301 ≤ 41 ∧ (mN 301).cls = "java/lang/String" := by decide +kernel
theorem q195_7 : qJ 195 7 (.if_icmp .ge 20) 10 (20) 27 := by decide +kernel
theorem q195_10 : qD 195 10 (.aload_n 0) 1 11 ∧ ((0 : Fin 4) : Nat) = 0 := by decide +kernel
theorem q195_11 : qD 195 11 (.iload_n 2) 1 12 ∧ ((2 : Fin 4) : Nat) = 2 := by decide +kernel
theorem q195_12 : qD 195 12 (.invokevirtual 99) 3 15 ∧ inG 1470 (.methodLink (mN 195).cls 99 (mN 302)) ∧ mL 302 ≤ 41 ∧ (mN 302).cls = "java/lang/String" := by decide +kernel
theorem q195_15 : qD 195 15 (.iload_n 1) 1 16 ∧ ((1 : Fin 4) : Nat) = 1 := by decide +kernel
theorem q195_16 : qJ 195 16 (.if_icmp .ne 5) 19 (5) 21 := by decide +kernel
theorem q195_19 : qD 195 19 (.iload_n 2) 1 20 ∧ ((2 : Fin 4) : Nat) = 2 := by decide +kernel
theorem q195_20 : qD 195 20 (.ireturn) 1 21 ∧ mR 195 = some .int := by decide +kernel
theorem q195_21 : qD 195 21 (.iinc 2 1) 3 24 ∧ 2 < mL 195 ∧ Int32.ofInt (1) = (1 : Int32) := by decide +kernel
theorem q195_24 : qJ 195 24 (.goto (-22)) 27 (-22) 2 := by decide +kernel
theorem q195_27 : qD 195 27 (.iconst (-1)) 1 28 ∧ Int32.ofInt (-1) = (-1 : Int32) := by decide +kernel
theorem q195_28 : qD 195 28 (.ireturn) 1 29 ∧ mR 195 = some .int := by decide +kernel
theorem q196_0 : qD 196 0 (.aload_n 0) 1 1 ∧ ((0 : Fin 4) : Nat) = 0 := by decide +kernel
theorem q196_1 : qD 196 1 (.invokevirtual 132) 3 4 ∧ qI 196 132 177 1453 := by decide +kernel
theorem q196_4 : qD 196 4 (.istore_n 3) 1 5 ∧ ((3 : Fin 4) : Nat) = 3 ∧ 3 < mL 196 := by decide +kernel
theorem q196_5 : qD 196 5 (.aload_n 0) 1 6 ∧ ((0 : Fin 4) : Nat) = 0 := by decide +kernel
theorem q196_6 : qD 196 6 (.invokevirtual 162) 3 9 ∧ qI 196 162 181 1503 := by decide +kernel
theorem q196_9 : qJ 196 9 (.ifCond .ne 10) 12 (10) 19 := by decide +kernel
theorem q196_12 : qD 196 12 (.aload_n 0) 1 13 ∧ ((0 : Fin 4) : Nat) = 0 := by decide +kernel
theorem q196_13 : qD 196 13 (.invokevirtual 128) 3 16 ∧ qI 196 128 178 1457 := by decide +kernel
theorem q196_16 : qD 196 16 (.pop) 1 17 := by decide +kernel
theorem q196_17 : qD 196 17 (.iconst 0) 1 18 ∧ Int32.ofInt (0) = (0 : Int32) := by decide +kernel
theorem q196_18 : qD 196 18 (.ireturn) 1 19 ∧ mR 196 = some .int := by decide +kernel
theorem q196_19 : qD 196 19 (.iload_n 3) 1 20 ∧ ((3 : Fin 4) : Nat) = 3 := by decide +kernel
theorem q196_20 : qD 196 20 (.bipush 48) 2 22 ∧ (Int8.ofInt (48)).toInt32 = (48 : Int32) := by decide +kernel
theorem q196_22 : qD 196 22 (.isub) 1 23 := by decide +kernel
theorem q196_23 : qD 196 23 (.istore 4) 2 25 ∧ 4 < mL 196 := by decide +kernel
theorem q196_25 : qD 196 25 (.aload_n 0) 1 26 ∧ ((0 : Fin 4) : Nat) = 0 := by decide +kernel
theorem q196_26 : qD 196 26 (.dup) 1 27 := by decide +kernel
theorem q196_27 : qG 196 27 113 30 11 10 1275 0 := by decide +kernel
theorem q196_30 : qD 196 30 (.iconst 1) 1 31 ∧ Int32.ofInt (1) = (1 : Int32) := by decide +kernel
theorem q196_31 : qD 196 31 (.iadd) 1 32 := by decide +kernel
theorem q196_32 : qP 196 32 113 35 11 10 1275 0 := by decide +kernel
theorem q196_35 : qD 196 35 (.aload_n 0) 1 36 ∧ ((0 : Fin 4) : Nat) = 0 := by decide +kernel
theorem q196_36 : qD 196 36 (.invokevirtual 162) 3 39 ∧ qI 196 162 181 1503 := by decide +kernel
theorem q196_39 : qJ 196 39 (.ifCond .eq 28) 42 (28) 67 := by decide +kernel
theorem q196_42 : qD 196 42 (.bipush 10) 2 44 ∧ (Int8.ofInt (10)).toInt32 = (10 : Int32) := by decide +kernel
theorem q196_44 : qD 196 44 (.iload 4) 2 46 := by decide +kernel
theorem q196_46 : qD 196 46 (.imul) 1 47 := by decide +kernel
theorem q196_47 : qD 196 47 (.aload_n 0) 1 48 ∧ ((0 : Fin 4) : Nat) = 0 := by decide +kernel
theorem q196_48 : qD 196 48 (.invokevirtual 208) 3 51 ∧ qI 196 208 194 1507 := by decide +kernel
theorem q196_51 : qD 196 51 (.iadd) 1 52 := by decide +kernel
theorem q196_52 : qD 196 52 (.bipush 48) 2 54 ∧ (Int8.ofInt (48)).toInt32 = (48 : Int32) := by decide +kernel
theorem q196_54 : qD 196 54 (.isub) 1 55 := by decide +kernel
theorem q196_55 : qD 196 55 (.istore 4) 2 57 ∧ 4 < mL 196 := by decide +kernel
theorem q196_57 : qD 196 57 (.aload_n 0) 1 58 ∧ ((0 : Fin 4) : Nat) = 0 := by decide +kernel
theorem q196_58 : qD 196 58 (.dup) 1 59 := by decide +kernel
theorem q196_59 : qG 196 59 113 62 11 10 1275 0 := by decide +kernel
theorem q196_62 : qD 196 62 (.iconst 1) 1 63 ∧ Int32.ofInt (1) = (1 : Int32) := by decide +kernel
theorem q196_63 : qD 196 63 (.iadd) 1 64 := by decide +kernel
theorem q196_64 : qP 196 64 113 67 11 10 1275 0 := by decide +kernel
theorem q196_67 : qD 196 67 (.aload_n 0) 1 68 ∧ ((0 : Fin 4) : Nat) = 0 := by decide +kernel
theorem q196_68 : qD 196 68 (.invokevirtual 162) 3 71 ∧ qI 196 162 181 1503 := by decide +kernel
theorem q196_71 : qJ 196 71 (.ifCond .eq 10) 74 (10) 81 := by decide +kernel
theorem q196_74 : qD 196 74 (.aload_n 0) 1 75 ∧ ((0 : Fin 4) : Nat) = 0 := by decide +kernel
theorem q196_75 : qD 196 75 (.invokevirtual 128) 3 78 ∧ qI 196 128 178 1457 := by decide +kernel
theorem q196_78 : qD 196 78 (.pop) 1 79 := by decide +kernel
theorem q196_79 : qD 196 79 (.iconst 0) 1 80 ∧ Int32.ofInt (0) = (0 : Int32) := by decide +kernel
theorem q196_80 : qD 196 80 (.ireturn) 1 81 ∧ mR 196 = some .int := by decide +kernel
theorem q196_81 : qD 196 81 (.iload 4) 2 83 := by decide +kernel
theorem q196_83 : qD 196 83 (.i2l) 1 84 := by decide +kernel
theorem q196_84 : qD 196 84 (.iload_n 1) 1 85 ∧ ((1 : Fin 4) : Nat) = 1 := by decide +kernel
theorem q196_85 : qD 196 85 (.i2l) 1 86 := by decide +kernel
theorem q196_86 : qD 196 86 (.iload_n 2) 1 87 ∧ ((2 : Fin 4) : Nat) = 2 := by decide +kernel
theorem q196_87 : qD 196 87 (.i2l) 1 88 := by decide +kernel
theorem q196_88 : qD 196 88 (.invokestatic 211) 3 91 ∧ qI 196 211 170 1435 := by decide +kernel
theorem q196_91 : qJ 196 91 (.ifCond .ne 18) 94 (18) 109 := by decide +kernel
theorem q196_94 : qD 196 94 (.aload_n 0) 1 95 ∧ ((0 : Fin 4) : Nat) = 0 := by decide +kernel
theorem q196_95 : qD 196 95 (.dup) 1 96 := by decide +kernel
theorem q196_96 : qG 196 96 113 99 11 10 1275 0 := by decide +kernel
theorem q196_99 : qD 196 99 (.iconst 1) 1 100 ∧ Int32.ofInt (1) = (1 : Int32) := by decide +kernel
theorem q196_100 : qD 196 100 (.isub) 1 101 := by decide +kernel
theorem q196_101 : qP 196 101 113 104 11 10 1275 0 := by decide +kernel
theorem q196_104 : qD 196 104 (.aload_n 0) 1 105 ∧ ((0 : Fin 4) : Nat) = 0 := by decide +kernel
theorem q196_105 : qD 196 105 (.invokevirtual 128) 3 108 ∧ qI 196 128 178 1457 := by decide +kernel
theorem q196_108 : qD 196 108 (.pop) 1 109 := by decide +kernel
theorem q196_109 : qD 196 109 (.iload 4) 2 111 := by decide +kernel
theorem q196_111 : qD 196 111 (.ireturn) 1 112 ∧ mR 196 = some .int := by decide +kernel
theorem q197_0 : qD 197 0 (.iload_n 0) 1 1 ∧ ((0 : Fin 4) : Nat) = 0 := by decide +kernel
theorem q197_1 : qD 197 1 (.bipush 115) 2 3 ∧ (Int8.ofInt (115)).toInt32 = (115 : Int32) := by decide +kernel
theorem q197_3 : qJ 197 3 (.if_icmp .ne 35) 6 (35) 38 := by decide +kernel
theorem q197_6 : qD 197 6 (.iload_n 1) 1 7 ∧ ((1 : Fin 4) : Nat) = 1 := by decide +kernel
theorem q197_7 : qJ 197 7 (.ifCond .ne 8) 10 (8) 15 := by decide +kernel
theorem q197_10 : qD 197 10 (.bipush 6) 2 12 ∧ (Int8.ofInt (6)).toInt32 = (6 : Int32) := by decide +kernel
theorem q197_12 : qJ 197 12 (.goto 25) 15 (25) 37 := by decide +kernel
theorem q197_15 : qD 197 15 (.iload_n 1) 1 16 ∧ ((1 : Fin 4) : Nat) = 1 := by decide +kernel
theorem q197_16 : qD 197 16 (.iconst 1) 1 17 ∧ Int32.ofInt (1) = (1 : Int32) := by decide +kernel
theorem q197_17 : qJ 197 17 (.if_icmp .ne 8) 20 (8) 25 := by decide +kernel
theorem q197_20 : qD 197 20 (.bipush 60) 2 22 ∧ (Int8.ofInt (60)).toInt32 = (60 : Int32) := by decide +kernel
theorem q197_22 : qJ 197 22 (.goto 15) 25 (15) 37 := by decide +kernel
theorem q197_25 : qD 197 25 (.iload_n 1) 1 26 ∧ ((1 : Fin 4) : Nat) = 1 := by decide +kernel
theorem q197_26 : qD 197 26 (.iconst 2) 1 27 ∧ Int32.ofInt (2) = (2 : Int32) := by decide +kernel
theorem q197_27 : qJ 197 27 (.if_icmp .ne 8) 30 (8) 35 := by decide +kernel
theorem q197_30 : qD 197 30 (.bipush 99) 2 32 ∧ (Int8.ofInt (99)).toInt32 = (99 : Int32) := by decide +kernel
theorem q197_32 : qJ 197 32 (.goto 5) 35 (5) 37 := by decide +kernel
theorem q197_35 : qD 197 35 (.bipush 9) 2 37 ∧ (Int8.ofInt (9)).toInt32 = (9 : Int32) := by decide +kernel
theorem q197_37 : qD 197 37 (.ireturn) 1 38 ∧ mR 197 = some .int := by decide +kernel
theorem q197_38 : qD 197 38 (.iload_n 0) 1 39 ∧ ((0 : Fin 4) : Nat) = 0 := by decide +kernel
theorem q197_39 : qD 197 39 (.bipush 118) 2 41 ∧ (Int8.ofInt (118)).toInt32 = (118 : Int32) := by decide +kernel
theorem q197_41 : qJ 197 41 (.if_icmp .ne 15) 44 (15) 56 := by decide +kernel
theorem q197_44 : qD 197 44 (.iload_n 1) 1 45 ∧ ((1 : Fin 4) : Nat) = 1 := by decide +kernel
theorem q197_45 : qJ 197 45 (.ifCond .ne 8) 48 (8) 53 := by decide +kernel
theorem q197_48 : qD 197 48 (.bipush 9) 2 50 ∧ (Int8.ofInt (9)).toInt32 = (9 : Int32) := by decide +kernel
theorem q197_50 : qJ 197 50 (.goto 5) 53 (5) 55 := by decide +kernel
theorem q197_53 : qD 197 53 (.bipush 10) 2 55 ∧ (Int8.ofInt (10)).toInt32 = (10 : Int32) := by decide +kernel
theorem q197_55 : qD 197 55 (.ireturn) 1 56 ∧ mR 197 = some .int := by decide +kernel
theorem q197_56 : qD 197 56 (.iload_n 1) 1 57 ∧ ((1 : Fin 4) : Nat) = 1 := by decide +kernel
theorem q197_57 : qD 197 57 (.tableswitch 43 0 3 #[31, 34, 37, 40]) 31 88 ∧ (57 : Int) + (43) = (100 : Int) ∧ ((3 : Int) - (0) + 1).toNat = (#[31, 34, 37, 40] : Array Int).size := by decide +kernel
theorem q197_88 : qD 197 88 (.bipush 30) 2 90 ∧ (Int8.ofInt (30)).toInt32 = (30 : Int32) := by decide +kernel
theorem q197_90 : qD 197 90 (.ireturn) 1 91 ∧ mR 197 = some .int := by decide +kernel
theorem q197_91 : qD 197 91 (.bipush 9) 2 93 ∧ (Int8.ofInt (9)).toInt32 = (9 : Int32) := by decide +kernel
theorem q197_93 : qD 197 93 (.ireturn) 1 94 ∧ mR 197 = some .int := by decide +kernel
theorem q197_94 : qD 197 94 (.bipush 10) 2 96 ∧ (Int8.ofInt (10)).toInt32 = (10 : Int32) := by decide +kernel
theorem q197_96 : qD 197 96 (.ireturn) 1 97 ∧ mR 197 = some .int := by decide +kernel
theorem q197_97 : qD 197 97 (.bipush 6) 2 99 ∧ (Int8.ofInt (6)).toInt32 = (6 : Int32) := by decide +kernel
theorem q197_99 : qD 197 99 (.ireturn) 1 100 ∧ mR 197 = some .int := by decide +kernel
theorem q197_100 : qD 197 100 (.bipush 99) 2 102 ∧ (Int8.ofInt (99)).toInt32 = (99 : Int32) := by decide +kernel
theorem q197_102 : qD 197 102 (.ireturn) 1 103 ∧ mR 197 = some .int := by decide +kernel
theorem q198_0 : qD 198 0 (.iload_n 0) 1 1 ∧ ((0 : Fin 4) : Nat) = 0 := by decide +kernel
theorem q198_1 : qD 198 1 (.bipush 115) 2 3 ∧ (Int8.ofInt (115)).toInt32 = (115 : Int32) := by decide +kernel
theorem q198_3 : qJ 198 3 (.if_icmp .ne 13) 6 (13) 16 := by decide +kernel
theorem q198_6 : qD 198 6 (.iload_n 1) 1 7 ∧ ((1 : Fin 4) : Nat) = 1 := by decide +kernel
theorem q198_7 : qD 198 7 (.iconst 1) 1 8 ∧ Int32.ofInt (1) = (1 : Int32) := by decide +kernel
theorem q198_8 : qJ 198 8 (.if_icmp .eq 18) 11 (18) 26 := by decide +kernel
theorem q198_11 : qD 198 11 (.iload_n 1) 1 12 ∧ ((1 : Fin 4) : Nat) = 1 := by decide +kernel
theorem q198_12 : qD 198 12 (.iconst 2) 1 13 ∧ Int32.ofInt (2) = (2 : Int32) := by decide +kernel
theorem q198_13 : qJ 198 13 (.if_icmp .eq 13) 16 (13) 26 := by decide +kernel
theorem q198_16 : qD 198 16 (.iload_n 0) 1 17 ∧ ((0 : Fin 4) : Nat) = 0 := by decide +kernel
theorem q198_17 : qD 198 17 (.bipush 118) 2 19 ∧ (Int8.ofInt (118)).toInt32 = (118 : Int32) := by decide +kernel
theorem q198_19 : qJ 198 19 (.if_icmp .ne 11) 22 (11) 30 := by decide +kernel
theorem q198_22 : qD 198 22 (.iload_n 1) 1 23 ∧ ((1 : Fin 4) : Nat) = 1 := by decide +kernel
theorem q198_23 : qJ 198 23 (.ifCond .ne 7) 26 (7) 30 := by decide +kernel
theorem q198_26 : qD 198 26 (.iconst 1) 1 27 ∧ Int32.ofInt (1) = (1 : Int32) := by decide +kernel
theorem q198_27 : qJ 198 27 (.goto 4) 30 (4) 31 := by decide +kernel
theorem q198_30 : qD 198 30 (.iconst 0) 1 31 ∧ Int32.ofInt (0) = (0 : Int32) := by decide +kernel
theorem q198_31 : qD 198 31 (.ireturn) 1 32 ∧ mR 198 = some .int := by decide +kernel
theorem q199_0 : qD 199 0 (.iload_n 0) 1 1 ∧ ((0 : Fin 4) : Nat) = 0 := by decide +kernel
theorem q199_1 : qD 199 1 (.bipush 115) 2 3 ∧ (Int8.ofInt (115)).toInt32 = (115 : Int32) := by decide +kernel
theorem q199_3 : qJ 199 3 (.if_icmp .ne 33) 6 (33) 36 := by decide +kernel
theorem q199_6 : qD 199 6 (.iload_n 1) 1 7 ∧ ((1 : Fin 4) : Nat) = 1 := by decide +kernel
theorem q199_7 : qJ 199 7 (.ifCond .ne 7) 10 (7) 14 := by decide +kernel
theorem q199_10 : qD 199 10 (.iconst 0) 1 11 ∧ Int32.ofInt (0) = (0 : Int32) := by decide +kernel
theorem q199_11 : qJ 199 11 (.goto 24) 14 (24) 35 := by decide +kernel
theorem q199_14 : qD 199 14 (.iload_n 1) 1 15 ∧ ((1 : Fin 4) : Nat) = 1 := by decide +kernel
theorem q199_15 : qD 199 15 (.iconst 1) 1 16 ∧ Int32.ofInt (1) = (1 : Int32) := by decide +kernel
theorem q199_16 : qJ 199 16 (.if_icmp .ne 8) 19 (8) 24 := by decide +kernel
theorem q199_19 : qD 199 19 (.bipush 20) 2 21 ∧ (Int8.ofInt (20)).toInt32 = (20 : Int32) := by decide +kernel
theorem q199_21 : qJ 199 21 (.goto 14) 24 (14) 35 := by decide +kernel
theorem q199_24 : qD 199 24 (.iload_n 1) 1 25 ∧ ((1 : Fin 4) : Nat) = 1 := by decide +kernel
theorem q199_25 : qD 199 25 (.iconst 2) 1 26 ∧ Int32.ofInt (2) = (2 : Int32) := by decide +kernel
theorem q199_26 : qJ 199 26 (.if_icmp .ne 8) 29 (8) 34 := by decide +kernel
theorem q199_29 : qD 199 29 (.bipush 40) 2 31 ∧ (Int8.ofInt (40)).toInt32 = (40 : Int32) := by decide +kernel
theorem q199_31 : qJ 199 31 (.goto 4) 34 (4) 35 := by decide +kernel
theorem q199_34 : qD 199 34 (.iconst 1) 1 35 ∧ Int32.ofInt (1) = (1 : Int32) := by decide +kernel
theorem q199_35 : qD 199 35 (.ireturn) 1 36 ∧ mR 199 = some .int := by decide +kernel
theorem q199_36 : qD 199 36 (.iload_n 0) 1 37 ∧ ((0 : Fin 4) : Nat) = 0 := by decide +kernel
theorem q199_37 : qD 199 37 (.bipush 118) 2 39 ∧ (Int8.ofInt (118)).toInt32 = (118 : Int32) := by decide +kernel
theorem q199_39 : qJ 199 39 (.if_icmp .ne 13) 42 (13) 52 := by decide +kernel
theorem q199_42 : qD 199 42 (.iload_n 1) 1 43 ∧ ((1 : Fin 4) : Nat) = 1 := by decide +kernel
theorem q199_43 : qJ 199 43 (.ifCond .ne 7) 46 (7) 50 := by decide +kernel
theorem q199_46 : qD 199 46 (.iconst 3) 1 47 ∧ Int32.ofInt (3) = (3 : Int32) := by decide +kernel
theorem q199_47 : qJ 199 47 (.goto 4) 50 (4) 51 := by decide +kernel
theorem q199_50 : qD 199 50 (.iconst 5) 1 51 ∧ Int32.ofInt (5) = (5 : Int32) := by decide +kernel
theorem q199_51 : qD 199 51 (.ireturn) 1 52 ∧ mR 199 = some .int := by decide +kernel
theorem q199_52 : qD 199 52 (.iload_n 1) 1 53 ∧ ((1 : Fin 4) : Nat) = 1 := by decide +kernel
theorem q199_53 : qD 199 53 (.tableswitch 41 0 3 #[31, 33, 35, 38]) 31 84 ∧ (53 : Int) + (41) = (94 : Int) ∧ ((3 : Int) - (0) + 1).toNat = (#[31, 33, 35, 38] : Array Int).size := by decide +kernel
theorem q199_84 : qD 199 84 (.iconst 4) 1 85 ∧ Int32.ofInt (4) = (4 : Int32) := by decide +kernel
theorem q199_85 : qD 199 85 (.ireturn) 1 86 ∧ mR 199 = some .int := by decide +kernel
theorem q199_86 : qD 199 86 (.iconst 3) 1 87 ∧ Int32.ofInt (3) = (3 : Int32) := by decide +kernel
theorem q199_87 : qD 199 87 (.ireturn) 1 88 ∧ mR 199 = some .int := by decide +kernel
theorem q199_88 : qD 199 88 (.bipush 9) 2 90 ∧ (Int8.ofInt (9)).toInt32 = (9 : Int32) := by decide +kernel
theorem q199_90 : qD 199 90 (.ireturn) 1 91 ∧ mR 199 = some .int := by decide +kernel
theorem q199_91 : qD 199 91 (.bipush 6) 2 93 ∧ (Int8.ofInt (6)).toInt32 = (6 : Int32) := by decide +kernel
theorem q199_93 : qD 199 93 (.ireturn) 1 94 ∧ mR 199 = some .int := by decide +kernel
theorem q199_94 : qD 199 94 (.iconst 5) 1 95 ∧ Int32.ofInt (5) = (5 : Int32) := by decide +kernel
theorem q199_95 : qD 199 95 (.ireturn) 1 96 ∧ mR 199 = some .int := by decide +kernel
theorem q200_0 : qD 200 0 (.iconst 0) 1 1 ∧ Int32.ofInt (0) = (0 : Int32) := by decide +kernel
theorem q200_1 : qD 200 1 (.istore 5) 2 3 ∧ 5 < mL 200 := by decide +kernel
theorem q200_3 : qD 200 3 (.iload 5) 2 5 := by decide +kernel
theorem q200_5 : qD 200 5 (.aload 4) 2 7 := by decide +kernel
theorem q200_7 : qD 200 7 (.invokevirtual 93) 3 10 ∧ inG 1466 (.methodLink (mN 200).cls 93 (mN 301)) ∧ mL 301 ≤ 41 ∧ (mN 301).cls = "java/lang/String" := by decide +kernel
theorem q200_10 : qJ 200 10 (.if_icmp .ge 21) 13 (21) 31 := by decide +kernel
theorem q200_13 : qD 200 13 (.aload_n 2) 1 14 ∧ ((2 : Fin 4) : Nat) = 2 := by decide +kernel
theorem q200_14 : qD 200 14 (.iload_n 3) 1 15 ∧ ((3 : Fin 4) : Nat) = 3 := by decide +kernel
theorem q200_15 : qD 200 15 (.iload 5) 2 17 := by decide +kernel
theorem q200_17 : qD 200 17 (.iadd) 1 18 := by decide +kernel
theorem q200_18 : qD 200 18 (.iload_n 1) 1 19 ∧ ((1 : Fin 4) : Nat) = 1 := by decide +kernel
theorem q200_19 : qD 200 19 (.iload 5) 2 21 := by decide +kernel
theorem q200_21 : qD 200 21 (.invokestatic 215) 3 24 ∧ qI 200 215 199 1446 := by decide +kernel
theorem q200_24 : qD 200 24 (.iastore) 1 25 := by decide +kernel
theorem q200_25 : qD 200 25 (.iinc 5 1) 3 28 ∧ 5 < mL 200 ∧ Int32.ofInt (1) = (1 : Int32) := by decide +kernel
theorem q200_28 : qJ 200 28 (.goto (-25)) 31 (-25) 3 := by decide +kernel
theorem q200_31 : qD 200 31 (.iconst 0) 1 32 ∧ Int32.ofInt (0) = (0 : Int32) := by decide +kernel
theorem q200_32 : qD 200 32 (.istore 5) 2 34 ∧ 5 < mL 200 := by decide +kernel
theorem q200_34 : qD 200 34 (.aload 4) 2 36 := by decide +kernel
theorem q200_36 : qD 200 36 (.aload_n 0) 1 37 ∧ ((0 : Fin 4) : Nat) = 0 := by decide +kernel
theorem q200_37 : qD 200 37 (.invokevirtual 132) 3 40 ∧ qI 200 132 177 1453 := by decide +kernel
theorem q200_40 : qD 200 40 (.invokestatic 219) 3 43 ∧ qI 200 219 195 1467 := by decide +kernel
theorem q200_43 : qD 200 43 (.istore 6) 2 45 ∧ 6 < mL 200 := by decide +kernel
theorem q200_45 : qD 200 45 (.iload 6) 2 47 := by decide +kernel
theorem q200_47 : qD 200 47 (.iconst (-1)) 1 48 ∧ Int32.ofInt (-1) = (-1 : Int32) := by decide +kernel
theorem q200_48 : qJ 200 48 (.if_icmp .eq 90) 51 (90) 138 := by decide +kernel
theorem q200_51 : qD 200 51 (.aload_n 0) 1 52 ∧ ((0 : Fin 4) : Nat) = 0 := by decide +kernel
theorem q200_52 : qG 200 52 122 55 11 11 1276 0 := by decide +kernel
theorem q200_55 : qD 200 55 (.iconst (-1)) 1 56 ∧ Int32.ofInt (-1) = (-1 : Int32) := by decide +kernel
theorem q200_56 : qJ 200 56 (.if_icmp .ne 82) 59 (82) 138 := by decide +kernel
theorem q200_59 : qD 200 59 (.iload 5) 2 61 := by decide +kernel
theorem q200_61 : qD 200 61 (.iload 6) 2 63 := by decide +kernel
theorem q200_63 : qD 200 63 (.invokestatic 223) 3 66 ∧ qI 200 223 171 1490 := by decide +kernel
theorem q200_66 : qJ 200 66 (.ifCond .eq 9) 69 (9) 75 := by decide +kernel
theorem q200_69 : qD 200 69 (.aload_n 0) 1 70 ∧ ((0 : Fin 4) : Nat) = 0 := by decide +kernel
theorem q200_70 : qD 200 70 (.invokevirtual 128) 3 73 ∧ qI 200 128 178 1457 := by decide +kernel
theorem q200_73 : qD 200 73 (.pop) 1 74 := by decide +kernel
theorem q200_74 : qD 200 74 (.return_) 1 75 ∧ mR 200 = none := by decide +kernel
theorem q200_75 : qD 200 75 (.iload 5) 2 77 := by decide +kernel
theorem q200_77 : qD 200 77 (.iconst 1) 1 78 ∧ Int32.ofInt (1) = (1 : Int32) := by decide +kernel
theorem q200_78 : qD 200 78 (.iload 6) 2 80 := by decide +kernel
theorem q200_80 : qD 200 80 (.ishl) 1 81 := by decide +kernel
theorem q200_81 : qD 200 81 (.ior) 1 82 := by decide +kernel
theorem q200_82 : qD 200 82 (.istore 5) 2 84 ∧ 5 < mL 200 := by decide +kernel
theorem q200_84 : qD 200 84 (.aload_n 0) 1 85 ∧ ((0 : Fin 4) : Nat) = 0 := by decide +kernel
theorem q200_85 : qD 200 85 (.dup) 1 86 := by decide +kernel
theorem q200_86 : qG 200 86 113 89 11 10 1275 0 := by decide +kernel
theorem q200_89 : qD 200 89 (.iconst 1) 1 90 ∧ Int32.ofInt (1) = (1 : Int32) := by decide +kernel
theorem q200_90 : qD 200 90 (.iadd) 1 91 := by decide +kernel
theorem q200_91 : qP 200 91 113 94 11 10 1275 0 := by decide +kernel
theorem q200_94 : qD 200 94 (.aload_n 2) 1 95 ∧ ((2 : Fin 4) : Nat) = 2 := by decide +kernel
theorem q200_95 : qD 200 95 (.iload_n 3) 1 96 ∧ ((3 : Fin 4) : Nat) = 3 := by decide +kernel
theorem q200_96 : qD 200 96 (.iload 6) 2 98 := by decide +kernel
theorem q200_98 : qD 200 98 (.iadd) 1 99 := by decide +kernel
theorem q200_99 : qD 200 99 (.aload_n 0) 1 100 ∧ ((0 : Fin 4) : Nat) = 0 := by decide +kernel
theorem q200_100 : qD 200 100 (.iload_n 1) 1 101 ∧ ((1 : Fin 4) : Nat) = 1 := by decide +kernel
theorem q200_101 : qD 200 101 (.iload 6) 2 103 := by decide +kernel
theorem q200_103 : qD 200 103 (.invokestatic 227) 3 106 ∧ qI 200 227 198 1493 := by decide +kernel
theorem q200_106 : qD 200 106 (.iload_n 1) 1 107 ∧ ((1 : Fin 4) : Nat) = 1 := by decide +kernel
theorem q200_107 : qD 200 107 (.iload 6) 2 109 := by decide +kernel
theorem q200_109 : qD 200 109 (.invokestatic 230) 3 112 ∧ qI 200 230 197 1496 := by decide +kernel
theorem q200_112 : qD 200 112 (.invokevirtual 233) 3 115 ∧ qI 200 233 196 1499 := by decide +kernel
theorem q200_115 : qD 200 115 (.iastore) 1 116 := by decide +kernel
theorem q200_116 : qD 200 116 (.aload_n 0) 1 117 ∧ ((0 : Fin 4) : Nat) = 0 := by decide +kernel
theorem q200_117 : qG 200 117 122 120 11 11 1276 0 := by decide +kernel
theorem q200_120 : qD 200 120 (.iconst (-1)) 1 121 ∧ Int32.ofInt (-1) = (-1 : Int32) := by decide +kernel
theorem q200_121 : qJ 200 121 (.if_icmp .ne (-76)) 124 (-76) 45 := by decide +kernel
theorem q200_124 : qD 200 124 (.aload 4) 2 126 := by decide +kernel
theorem q200_126 : qD 200 126 (.aload_n 0) 1 127 ∧ ((0 : Fin 4) : Nat) = 0 := by decide +kernel
theorem q200_127 : qD 200 127 (.invokevirtual 132) 3 130 ∧ qI 200 132 177 1453 := by decide +kernel
theorem q200_130 : qD 200 130 (.invokestatic 219) 3 133 ∧ qI 200 219 195 1467 := by decide +kernel
theorem q200_133 : qD 200 133 (.istore 6) 2 135 ∧ 6 < mL 200 := by decide +kernel
theorem q200_135 : qJ 200 135 (.goto (-90)) 138 (-90) 45 := by decide +kernel
theorem q200_138 : qD 200 138 (.return_) 1 139 ∧ mR 200 = none := by decide +kernel
theorem q201_0 : qD 201 0 (.aload_n 0) 1 1 ∧ ((0 : Fin 4) : Nat) = 0 := by decide +kernel
theorem q201_1 : qD 201 1 (.invokevirtual 132) 3 4 ∧ qI 201 132 177 1453 := by decide +kernel
theorem q201_4 : qD 201 4 (.istore_n 1) 1 5 ∧ ((1 : Fin 4) : Nat) = 1 ∧ 1 < mL 201 := by decide +kernel
theorem q201_5 : qD 201 5 (.iload_n 1) 1 6 ∧ ((1 : Fin 4) : Nat) = 1 := by decide +kernel
theorem q201_6 : qD 201 6 (.bipush 115) 2 8 ∧ (Int8.ofInt (115)).toInt32 = (115 : Int32) := by decide +kernel
theorem q201_8 : qJ 201 8 (.if_icmp .ne 10) 11 (10) 18 := by decide +kernel
theorem q201_11 : qD 201 11 (.aload_n 0) 1 12 ∧ ((0 : Fin 4) : Nat) = 0 := by decide +kernel
theorem q201_12 : qG 201 12 236 15 11 31 1296 0 := by decide +kernel
theorem q201_15 : qJ 201 15 (.ifCond .eq 33) 18 (33) 48 := by decide +kernel
theorem q201_18 : qD 201 18 (.iload_n 1) 1 19 ∧ ((1 : Fin 4) : Nat) = 1 := by decide +kernel
theorem q201_19 : qD 201 19 (.bipush 99) 2 21 ∧ (Int8.ofInt (99)).toInt32 = (99 : Int32) := by decide +kernel
theorem q201_21 : qJ 201 21 (.if_icmp .ne 12) 24 (12) 33 := by decide +kernel
theorem q201_24 : qD 201 24 (.aload_n 0) 1 25 ∧ ((0 : Fin 4) : Nat) = 0 := by decide +kernel
theorem q201_25 : qG 201 25 239 28 11 28 1293 0 := by decide +kernel
theorem q201_28 : qD 201 28 (.bipush 7) 2 30 ∧ (Int8.ofInt (7)).toInt32 = (7 : Int32) := by decide +kernel
theorem q201_30 : qJ 201 30 (.if_icmp .lt 18) 33 (18) 48 := by decide +kernel
theorem q201_33 : qD 201 33 (.iload_n 1) 1 34 ∧ ((1 : Fin 4) : Nat) = 1 := by decide +kernel
theorem q201_34 : qD 201 34 (.bipush 118) 2 36 ∧ (Int8.ofInt (118)).toInt32 = (118 : Int32) := by decide +kernel
theorem q201_36 : qJ 201 36 (.if_icmp .ne 16) 39 (16) 52 := by decide +kernel
theorem q201_39 : qD 201 39 (.aload_n 0) 1 40 ∧ ((0 : Fin 4) : Nat) = 0 := by decide +kernel
theorem q201_40 : qG 201 40 242 43 11 29 1294 0 := by decide +kernel
theorem q201_43 : qD 201 43 (.bipush 6) 2 45 ∧ (Int8.ofInt (6)).toInt32 = (6 : Int32) := by decide +kernel
theorem q201_45 : qJ 201 45 (.if_icmp .ge 7) 48 (7) 52 := by decide +kernel
theorem q201_48 : qD 201 48 (.iconst 1) 1 49 ∧ Int32.ofInt (1) = (1 : Int32) := by decide +kernel
theorem q201_49 : qJ 201 49 (.goto 4) 52 (4) 53 := by decide +kernel
theorem q201_52 : qD 201 52 (.iconst 0) 1 53 ∧ Int32.ofInt (0) = (0 : Int32) := by decide +kernel
theorem q201_53 : qD 201 53 (.istore_n 2) 1 54 ∧ ((2 : Fin 4) : Nat) = 2 ∧ 2 < mL 201 := by decide +kernel
theorem q201_54 : qD 201 54 (.iload_n 2) 1 55 ∧ ((2 : Fin 4) : Nat) = 2 := by decide +kernel
theorem q201_55 : qJ 201 55 (.ifCond .ne 9) 58 (9) 64 := by decide +kernel
theorem q201_58 : qD 201 58 (.aload_n 0) 1 59 ∧ ((0 : Fin 4) : Nat) = 0 := by decide +kernel
theorem q201_59 : qD 201 59 (.invokevirtual 128) 3 62 ∧ qI 201 128 178 1457 := by decide +kernel
theorem q201_62 : qD 201 62 (.pop) 1 63 := by decide +kernel
theorem q201_63 : qD 201 63 (.return_) 1 64 ∧ mR 201 = none := by decide +kernel
theorem q201_64 : qD 201 64 (.aload_n 0) 1 65 ∧ ((0 : Fin 4) : Nat) = 0 := by decide +kernel
theorem q201_65 : qD 201 65 (.dup) 1 66 := by decide +kernel
theorem q201_66 : qG 201 66 113 69 11 10 1275 0 := by decide +kernel
theorem q201_69 : qD 201 69 (.iconst 1) 1 70 ∧ Int32.ofInt (1) = (1 : Int32) := by decide +kernel
theorem q201_70 : qD 201 70 (.iadd) 1 71 := by decide +kernel
theorem q201_71 : qP 201 71 113 74 11 10 1275 0 := by decide +kernel
theorem q201_74 : qD 201 74 (.iload_n 1) 1 75 ∧ ((1 : Fin 4) : Nat) = 1 := by decide +kernel
theorem q201_75 : qD 201 75 (.bipush 115) 2 77 ∧ (Int8.ofInt (115)).toInt32 = (115 : Int32) := by decide +kernel
theorem q201_77 : qJ 201 77 (.if_icmp .ne 23) 80 (23) 100 := by decide +kernel
theorem q201_80 : qD 201 80 (.aload_n 0) 1 81 ∧ ((0 : Fin 4) : Nat) = 0 := by decide +kernel
theorem q201_81 : qD 201 81 (.iconst 1) 1 82 ∧ Int32.ofInt (1) = (1 : Int32) := by decide +kernel
theorem q201_82 : qP 201 82 236 85 11 31 1296 0 := by decide +kernel
theorem q201_85 : qD 201 85 (.aload_n 0) 1 86 ∧ ((0 : Fin 4) : Nat) = 0 := by decide +kernel
theorem q201_86 : qD 201 86 (.iload_n 1) 1 87 ∧ ((1 : Fin 4) : Nat) = 1 := by decide +kernel
theorem q201_87 : qD 201 87 (.aload_n 0) 1 88 ∧ ((0 : Fin 4) : Nat) = 0 := by decide +kernel
theorem q201_88 : qG 201 88 40 91 11 19 1284 2 := by decide +kernel
theorem q201_91 : qD 201 91 (.iconst 0) 1 92 ∧ Int32.ofInt (0) = (0 : Int32) := by decide +kernel
theorem q201_92 : qD 201 92 (.ldc 245) 2 94 ∧ cR[9]? = some ((mN 201).cls, 245, "wlgb", 0) := by decide +kernel
theorem q201_94 : qD 201 94 (.invokevirtual 247) 3 97 ∧ qI 201 247 200 1462 := by decide +kernel
theorem q201_97 : qJ 201 97 (.goto 70) 100 (70) 167 := by decide +kernel
theorem q201_100 : qD 201 100 (.iload_n 1) 1 101 ∧ ((1 : Fin 4) : Nat) = 1 := by decide +kernel
theorem q201_101 : qD 201 101 (.bipush 99) 2 103 ∧ (Int8.ofInt (99)).toInt32 = (99 : Int32) := by decide +kernel
theorem q201_103 : qJ 201 103 (.if_icmp .ne 35) 106 (35) 138 := by decide +kernel
theorem q201_106 : qD 201 106 (.aload_n 0) 1 107 ∧ ((0 : Fin 4) : Nat) = 0 := by decide +kernel
theorem q201_107 : qD 201 107 (.dup) 1 108 := by decide +kernel
theorem q201_108 : qG 201 108 239 111 11 28 1293 0 := by decide +kernel
theorem q201_111 : qD 201 111 (.iconst 1) 1 112 ∧ Int32.ofInt (1) = (1 : Int32) := by decide +kernel
theorem q201_112 : qD 201 112 (.iadd) 1 113 := by decide +kernel
theorem q201_113 : qP 201 113 239 116 11 28 1293 0 := by decide +kernel
theorem q201_116 : qD 201 116 (.aload_n 0) 1 117 ∧ ((0 : Fin 4) : Nat) = 0 := by decide +kernel
theorem q201_117 : qD 201 117 (.iload_n 1) 1 118 ∧ ((1 : Fin 4) : Nat) = 1 := by decide +kernel
theorem q201_118 : qD 201 118 (.aload_n 0) 1 119 ∧ ((0 : Fin 4) : Nat) = 0 := by decide +kernel
theorem q201_119 : qG 201 119 46 122 11 21 1286 2 := by decide +kernel
theorem q201_122 : qD 201 122 (.iconst 5) 1 123 ∧ Int32.ofInt (5) = (5 : Int32) := by decide +kernel
theorem q201_123 : qD 201 123 (.aload_n 0) 1 124 ∧ ((0 : Fin 4) : Nat) = 0 := by decide +kernel
theorem q201_124 : qG 201 124 239 127 11 28 1293 0 := by decide +kernel
theorem q201_127 : qD 201 127 (.iconst 1) 1 128 ∧ Int32.ofInt (1) = (1 : Int32) := by decide +kernel
theorem q201_128 : qD 201 128 (.isub) 1 129 := by decide +kernel
theorem q201_129 : qD 201 129 (.imul) 1 130 := by decide +kernel
theorem q201_130 : qD 201 130 (.ldc 251) 2 132 ∧ cR[10]? = some ((mN 201).cls, 251, "tmhxb", 1) := by decide +kernel
theorem q201_132 : qD 201 132 (.invokevirtual 247) 3 135 ∧ qI 201 247 200 1462 := by decide +kernel
theorem q201_135 : qJ 201 135 (.goto 32) 138 (32) 167 := by decide +kernel
theorem q201_138 : qD 201 138 (.aload_n 0) 1 139 ∧ ((0 : Fin 4) : Nat) = 0 := by decide +kernel
theorem q201_139 : qD 201 139 (.dup) 1 140 := by decide +kernel
theorem q201_140 : qG 201 140 242 143 11 29 1294 0 := by decide +kernel
theorem q201_143 : qD 201 143 (.iconst 1) 1 144 ∧ Int32.ofInt (1) = (1 : Int32) := by decide +kernel
theorem q201_144 : qD 201 144 (.iadd) 1 145 := by decide +kernel
theorem q201_145 : qP 201 145 242 148 11 29 1294 0 := by decide +kernel
theorem q201_148 : qD 201 148 (.aload_n 0) 1 149 ∧ ((0 : Fin 4) : Nat) = 0 := by decide +kernel
theorem q201_149 : qD 201 149 (.iload_n 1) 1 150 ∧ ((1 : Fin 4) : Nat) = 1 := by decide +kernel
theorem q201_150 : qD 201 150 (.aload_n 0) 1 151 ∧ ((0 : Fin 4) : Nat) = 0 := by decide +kernel
theorem q201_151 : qG 201 151 52 154 11 23 1288 2 := by decide +kernel
theorem q201_154 : qD 201 154 (.iconst 2) 1 155 ∧ Int32.ofInt (2) = (2 : Int32) := by decide +kernel
theorem q201_155 : qD 201 155 (.aload_n 0) 1 156 ∧ ((0 : Fin 4) : Nat) = 0 := by decide +kernel
theorem q201_156 : qG 201 156 242 159 11 29 1294 0 := by decide +kernel
theorem q201_159 : qD 201 159 (.iconst 1) 1 160 ∧ Int32.ofInt (1) = (1 : Int32) := by decide +kernel
theorem q201_160 : qD 201 160 (.isub) 1 161 := by decide +kernel
theorem q201_161 : qD 201 161 (.imul) 1 162 := by decide +kernel
theorem q201_162 : qD 201 162 (.ldc 253) 2 164 ∧ cR[11]? = some ((mN 201).cls, 253, "np", 2) := by decide +kernel
theorem q201_164 : qD 201 164 (.invokevirtual 247) 3 167 ∧ qI 201 247 200 1462 := by decide +kernel
theorem q201_167 : qD 201 167 (.return_) 1 168 ∧ mR 201 = none := by decide +kernel
theorem q202_0 : qD 202 0 (.aload_n 0) 1 1 ∧ ((0 : Fin 4) : Nat) = 0 := by decide +kernel
theorem q202_1 : qD 202 1 (.aload_n 0) 1 2 ∧ ((0 : Fin 4) : Nat) = 0 := by decide +kernel
