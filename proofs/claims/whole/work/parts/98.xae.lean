/-! MAKING, 5: the model and the object (written by gen/m_init2.py) -/
theorem dX11_init_0 : gw_dc cX11_init 0 (.aload_n 0) 1 1 := ⟨by decide +kernel, rfl⟩
theorem dX11_init_1 : gw_dc cX11_init 1 (.invokespecial 1) 3 4 := ⟨by decide +kernel, rfl⟩
theorem oi_RX11 : Cond.methodLink RX11 1 objectInit ∈ wsG := gw_mem 1420 (by decide +kernel) rfl
theorem dX11_init_4 : gw_dc cX11_init 4 (.aload_n 0) 1 5 := ⟨by decide +kernel, rfl⟩
theorem dX11_init_5 : gw_dc cX11_init 5 (.sipush 672) 3 8 := ⟨by decide +kernel, rfl⟩
theorem dX11_init_8 : gw_dc cX11_init 8 (.newarray .int) 2 10 := ⟨by decide +kernel, rfl⟩
theorem dX11_init_10 : gw_dc cX11_init 10 (.putfield 9) 3 13 := ⟨by decide +kernel, rfl⟩
theorem pf_RX11_9 : gw_pf RX11 9 11 0 42 := ⟨_, _, _, ck_11, by decide, gw_mem 1421 (by decide +kernel) rfl, rfl, rfl, Or.inr ⟨_, rfl⟩, by decide⟩
theorem dX11_init_13 : gw_dc cX11_init 13 (.aload_n 0) 1 14 := ⟨by decide +kernel, rfl⟩
theorem dX11_init_14 : gw_dc cX11_init 14 (.sipush 672) 3 17 := ⟨by decide +kernel, rfl⟩
theorem dX11_init_17 : gw_dc cX11_init 17 (.newarray .int) 2 19 := ⟨by decide +kernel, rfl⟩
theorem dX11_init_19 : gw_dc cX11_init 19 (.putfield 13) 3 22 := ⟨by decide +kernel, rfl⟩
theorem pf_RX11_13 : gw_pf RX11 13 11 1 42 := ⟨_, _, _, ck_11, by decide, gw_mem 1422 (by decide +kernel) rfl, rfl, rfl, Or.inr ⟨_, rfl⟩, by decide⟩
theorem dX11_init_22 : gw_dc cX11_init 22 (.aload_n 0) 1 23 := ⟨by decide +kernel, rfl⟩
theorem dX11_init_23 : gw_dc cX11_init 23 (.sipush 672) 3 26 := ⟨by decide +kernel, rfl⟩
theorem dX11_init_26 : gw_dc cX11_init 26 (.newarray .int) 2 28 := ⟨by decide +kernel, rfl⟩
theorem dX11_init_28 : gw_dc cX11_init 28 (.putfield 16) 3 31 := ⟨by decide +kernel, rfl⟩
theorem pf_RX11_16 : gw_pf RX11 16 11 2 42 := ⟨_, _, _, ck_11, by decide, gw_mem 1423 (by decide +kernel) rfl, rfl, rfl, Or.inr ⟨_, rfl⟩, by decide⟩
theorem dX11_init_31 : gw_dc cX11_init 31 (.aload_n 0) 1 32 := ⟨by decide +kernel, rfl⟩
theorem dX11_init_32 : gw_dc cX11_init 32 (.sipush 2016) 3 35 := ⟨by decide +kernel, rfl⟩
theorem dX11_init_35 : gw_dc cX11_init 35 (.newarray .int) 2 37 := ⟨by decide +kernel, rfl⟩
theorem dX11_init_37 : gw_dc cX11_init 37 (.putfield 19) 3 40 := ⟨by decide +kernel, rfl⟩
theorem pf_RX11_19 : gw_pf RX11 19 11 3 42 := ⟨_, _, _, ck_11, by decide, gw_mem 1424 (by decide +kernel) rfl, rfl, rfl, Or.inr ⟨_, rfl⟩, by decide⟩
theorem dX11_init_40 : gw_dc cX11_init 40 (.aload_n 0) 1 41 := ⟨by decide +kernel, rfl⟩
theorem dX11_init_41 : gw_dc cX11_init 41 (.iconst 3) 1 42 := ⟨by decide +kernel, rfl⟩
theorem dX11_init_42 : gw_dc cX11_init 42 (.newarray .boolean) 2 44 := ⟨by decide +kernel, rfl⟩
theorem ac_boolean : Cond.arrayClass .boolean ∈ wsG := gw_mem 1548 (by decide +kernel) rfl
theorem dX11_init_44 : gw_dc cX11_init 44 (.putfield 22) 3 47 := ⟨by decide +kernel, rfl⟩
theorem pf_RX11_22 : gw_pf RX11 22 11 4 42 := ⟨_, _, _, ck_11, by decide, gw_mem 1425 (by decide +kernel) rfl, rfl, rfl, Or.inr ⟨_, rfl⟩, by decide⟩
theorem dX11_init_47 : gw_dc cX11_init 47 (.aload_n 0) 1 48 := ⟨by decide +kernel, rfl⟩
theorem dX11_init_48 : gw_dc cX11_init 48 (.sipush 900) 3 51 := ⟨by decide +kernel, rfl⟩
theorem dX11_init_51 : gw_dc cX11_init 51 (.newarray .int) 2 53 := ⟨by decide +kernel, rfl⟩
theorem dX11_init_53 : gw_dc cX11_init 53 (.putfield 26) 3 56 := ⟨by decide +kernel, rfl⟩
theorem pf_RX11_26 : gw_pf RX11 26 11 6 42 := ⟨_, _, _, ck_11, by decide, gw_mem 1427 (by decide +kernel) rfl, rfl, rfl, Or.inr ⟨_, rfl⟩, by decide⟩
theorem dX11_init_56 : gw_dc cX11_init 56 (.aload_n 0) 1 57 := ⟨by decide +kernel, rfl⟩
theorem dX11_init_57 : gw_dc cX11_init 57 (.iconst (-1)) 1 58 := ⟨by decide +kernel, rfl⟩
theorem dX11_init_58 : gw_dc cX11_init 58 (.putfield 29) 3 61 := ⟨by decide +kernel, rfl⟩
theorem dX11_init_61 : gw_dc cX11_init 61 (.aload_n 0) 1 62 := ⟨by decide +kernel, rfl⟩
theorem dX11_init_62 : gw_dc cX11_init 62 (.bipush 8) 2 64 := ⟨by decide +kernel, rfl⟩
theorem dX11_init_64 : gw_dc cX11_init 64 (.newarray .int) 2 66 := ⟨by decide +kernel, rfl⟩
theorem dX11_init_66 : gw_dc cX11_init 66 (.putfield 33) 3 69 := ⟨by decide +kernel, rfl⟩
theorem pf_RX11_33 : gw_pf RX11 33 11 17 42 := ⟨_, _, _, ck_11, by decide, gw_mem 1438 (by decide +kernel) rfl, rfl, rfl, Or.inr ⟨_, rfl⟩, by decide⟩
theorem dX11_init_69 : gw_dc cX11_init 69 (.aload_n 0) 1 70 := ⟨by decide +kernel, rfl⟩
theorem dX11_init_70 : gw_dc cX11_init 70 (.bipush 60) 2 72 := ⟨by decide +kernel, rfl⟩
theorem dX11_init_72 : gw_dc cX11_init 72 (.newarray .int) 2 74 := ⟨by decide +kernel, rfl⟩
theorem dX11_init_74 : gw_dc cX11_init 74 (.putfield 36) 3 77 := ⟨by decide +kernel, rfl⟩
theorem pf_RX11_36 : gw_pf RX11 36 11 18 42 := ⟨_, _, _, ck_11, by decide, gw_mem 1439 (by decide +kernel) rfl, rfl, rfl, Or.inr ⟨_, rfl⟩, by decide⟩
theorem dX11_init_77 : gw_dc cX11_init 77 (.aload_n 0) 1 78 := ⟨by decide +kernel, rfl⟩
theorem dX11_init_78 : gw_dc cX11_init 78 (.bipush 60) 2 80 := ⟨by decide +kernel, rfl⟩
theorem dX11_init_80 : gw_dc cX11_init 80 (.newarray .int) 2 82 := ⟨by decide +kernel, rfl⟩
theorem dX11_init_82 : gw_dc cX11_init 82 (.putfield 39) 3 85 := ⟨by decide +kernel, rfl⟩
theorem pf_RX11_39 : gw_pf RX11 39 11 19 42 := ⟨_, _, _, ck_11, by decide, gw_mem 1440 (by decide +kernel) rfl, rfl, rfl, Or.inr ⟨_, rfl⟩, by decide⟩
theorem dX11_init_85 : gw_dc cX11_init 85 (.aload_n 0) 1 86 := ⟨by decide +kernel, rfl⟩
theorem dX11_init_86 : gw_dc cX11_init 86 (.bipush 60) 2 88 := ⟨by decide +kernel, rfl⟩
theorem dX11_init_88 : gw_dc cX11_init 88 (.newarray .int) 2 90 := ⟨by decide +kernel, rfl⟩
theorem dX11_init_90 : gw_dc cX11_init 90 (.putfield 42) 3 93 := ⟨by decide +kernel, rfl⟩
theorem pf_RX11_42 : gw_pf RX11 42 11 20 42 := ⟨_, _, _, ck_11, by decide, gw_mem 1441 (by decide +kernel) rfl, rfl, rfl, Or.inr ⟨_, rfl⟩, by decide⟩
theorem dX11_init_93 : gw_dc cX11_init 93 (.aload_n 0) 1 94 := ⟨by decide +kernel, rfl⟩
theorem dX11_init_94 : gw_dc cX11_init 94 (.bipush 60) 2 96 := ⟨by decide +kernel, rfl⟩
theorem dX11_init_96 : gw_dc cX11_init 96 (.newarray .int) 2 98 := ⟨by decide +kernel, rfl⟩
theorem dX11_init_98 : gw_dc cX11_init 98 (.putfield 45) 3 101 := ⟨by decide +kernel, rfl⟩
theorem pf_RX11_45 : gw_pf RX11 45 11 21 42 := ⟨_, _, _, ck_11, by decide, gw_mem 1442 (by decide +kernel) rfl, rfl, rfl, Or.inr ⟨_, rfl⟩, by decide⟩
theorem dX11_init_101 : gw_dc cX11_init 101 (.aload_n 0) 1 102 := ⟨by decide +kernel, rfl⟩
theorem dX11_init_102 : gw_dc cX11_init 102 (.bipush 60) 2 104 := ⟨by decide +kernel, rfl⟩
theorem dX11_init_104 : gw_dc cX11_init 104 (.newarray .int) 2 106 := ⟨by decide +kernel, rfl⟩
theorem dX11_init_106 : gw_dc cX11_init 106 (.putfield 48) 3 109 := ⟨by decide +kernel, rfl⟩
theorem pf_RX11_48 : gw_pf RX11 48 11 22 42 := ⟨_, _, _, ck_11, by decide, gw_mem 1443 (by decide +kernel) rfl, rfl, rfl, Or.inr ⟨_, rfl⟩, by decide⟩
theorem dX11_init_109 : gw_dc cX11_init 109 (.aload_n 0) 1 110 := ⟨by decide +kernel, rfl⟩
theorem dX11_init_110 : gw_dc cX11_init 110 (.iconst 3) 1 111 := ⟨by decide +kernel, rfl⟩
theorem dX11_init_111 : gw_dc cX11_init 111 (.newarray .int) 2 113 := ⟨by decide +kernel, rfl⟩
theorem dX11_init_113 : gw_dc cX11_init 113 (.putfield 51) 3 116 := ⟨by decide +kernel, rfl⟩
theorem pf_RX11_51 : gw_pf RX11 51 11 23 42 := ⟨_, _, _, ck_11, by decide, gw_mem 1444 (by decide +kernel) rfl, rfl, rfl, Or.inr ⟨_, rfl⟩, by decide⟩
theorem dX11_init_116 : gw_dc cX11_init 116 (.aload_n 0) 1 117 := ⟨by decide +kernel, rfl⟩
theorem dX11_init_117 : gw_dc cX11_init 117 (.iconst 3) 1 118 := ⟨by decide +kernel, rfl⟩
theorem dX11_init_118 : gw_dc cX11_init 118 (.newarray .int) 2 120 := ⟨by decide +kernel, rfl⟩
theorem dX11_init_120 : gw_dc cX11_init 120 (.putfield 54) 3 123 := ⟨by decide +kernel, rfl⟩
theorem pf_RX11_54 : gw_pf RX11 54 11 24 42 := ⟨_, _, _, ck_11, by decide, gw_mem 1445 (by decide +kernel) rfl, rfl, rfl, Or.inr ⟨_, rfl⟩, by decide⟩
theorem dX11_init_123 : gw_dc cX11_init 123 (.aload_n 0) 1 124 := ⟨by decide +kernel, rfl⟩
theorem dX11_init_124 : gw_dc cX11_init 124 (.bipush 8) 2 126 := ⟨by decide +kernel, rfl⟩
theorem dX11_init_126 : gw_dc cX11_init 126 (.newarray .int) 2 128 := ⟨by decide +kernel, rfl⟩
theorem dX11_init_128 : gw_dc cX11_init 128 (.putfield 57) 3 131 := ⟨by decide +kernel, rfl⟩
theorem pf_RX11_57 : gw_pf RX11 57 11 25 42 := ⟨_, _, _, ck_11, by decide, gw_mem 1446 (by decide +kernel) rfl, rfl, rfl, Or.inr ⟨_, rfl⟩, by decide⟩
theorem dX11_init_131 : gw_dc cX11_init 131 (.aload_n 0) 1 132 := ⟨by decide +kernel, rfl⟩
theorem dX11_init_132 : gw_dc cX11_init 132 (.bipush 60) 2 134 := ⟨by decide +kernel, rfl⟩
theorem dX11_init_134 : gw_dc cX11_init 134 (.newarray .int) 2 136 := ⟨by decide +kernel, rfl⟩
theorem dX11_init_136 : gw_dc cX11_init 136 (.putfield 60) 3 139 := ⟨by decide +kernel, rfl⟩
theorem pf_RX11_60 : gw_pf RX11 60 11 26 42 := ⟨_, _, _, ck_11, by decide, gw_mem 1447 (by decide +kernel) rfl, rfl, rfl, Or.inr ⟨_, rfl⟩, by decide⟩
theorem dX11_init_139 : gw_dc cX11_init 139 (.aload_n 0) 1 140 := ⟨by decide +kernel, rfl⟩
theorem dX11_init_140 : gw_dc cX11_init 140 (.bipush 60) 2 142 := ⟨by decide +kernel, rfl⟩
theorem dX11_init_142 : gw_dc cX11_init 142 (.newarray .int) 2 144 := ⟨by decide +kernel, rfl⟩
theorem dX11_init_144 : gw_dc cX11_init 144 (.putfield 63) 3 147 := ⟨by decide +kernel, rfl⟩
theorem pf_RX11_63 : gw_pf RX11 63 11 29 42 := ⟨_, _, _, ck_11, by decide, gw_mem 1450 (by decide +kernel) rfl, rfl, rfl, Or.inr ⟨_, rfl⟩, by decide⟩
theorem dX11_init_147 : gw_dc cX11_init 147 (.aload_n 0) 1 148 := ⟨by decide +kernel, rfl⟩
theorem dX11_init_148 : gw_dc cX11_init 148 (.bipush 60) 2 150 := ⟨by decide +kernel, rfl⟩
theorem dX11_init_150 : gw_dc cX11_init 150 (.newarray .int) 2 152 := ⟨by decide +kernel, rfl⟩
theorem dX11_init_152 : gw_dc cX11_init 152 (.putfield 66) 3 155 := ⟨by decide +kernel, rfl⟩
theorem pf_RX11_66 : gw_pf RX11 66 11 30 42 := ⟨_, _, _, ck_11, by decide, gw_mem 1451 (by decide +kernel) rfl, rfl, rfl, Or.inr ⟨_, rfl⟩, by decide⟩
theorem dX11_init_155 : gw_dc cX11_init 155 (.aload_n 0) 1 156 := ⟨by decide +kernel, rfl⟩
theorem dX11_init_156 : gw_dc cX11_init 156 (.bipush 8) 2 158 := ⟨by decide +kernel, rfl⟩
theorem dX11_init_158 : gw_dc cX11_init 158 (.newarray .int) 2 160 := ⟨by decide +kernel, rfl⟩
theorem dX11_init_160 : gw_dc cX11_init 160 (.putfield 69) 3 163 := ⟨by decide +kernel, rfl⟩
theorem pf_RX11_69 : gw_pf RX11 69 11 32 42 := ⟨_, _, _, ck_11, by decide, gw_mem 1453 (by decide +kernel) rfl, rfl, rfl, Or.inr ⟨_, rfl⟩, by decide⟩
theorem dX11_init_163 : gw_dc cX11_init 163 (.aload_n 0) 1 164 := ⟨by decide +kernel, rfl⟩
theorem dX11_init_164 : gw_dc cX11_init 164 (.bipush 8) 2 166 := ⟨by decide +kernel, rfl⟩
theorem dX11_init_166 : gw_dc cX11_init 166 (.newarray .int) 2 168 := ⟨by decide +kernel, rfl⟩
theorem dX11_init_168 : gw_dc cX11_init 168 (.putfield 72) 3 171 := ⟨by decide +kernel, rfl⟩
theorem pf_RX11_72 : gw_pf RX11 72 11 33 42 := ⟨_, _, _, ck_11, by decide, gw_mem 1454 (by decide +kernel) rfl, rfl, rfl, Or.inr ⟨_, rfl⟩, by decide⟩
theorem dX11_init_171 : gw_dc cX11_init 171 (.aload_n 0) 1 172 := ⟨by decide +kernel, rfl⟩
theorem dX11_init_172 : gw_dc cX11_init 172 (.sipush 672) 3 175 := ⟨by decide +kernel, rfl⟩
theorem dX11_init_175 : gw_dc cX11_init 175 (.newarray .int) 2 177 := ⟨by decide +kernel, rfl⟩
theorem dX11_init_177 : gw_dc cX11_init 177 (.putfield 75) 3 180 := ⟨by decide +kernel, rfl⟩
theorem pf_RX11_75 : gw_pf RX11 75 11 36 42 := ⟨_, _, _, ck_11, by decide, gw_mem 1457 (by decide +kernel) rfl, rfl, rfl, Or.inr ⟨_, rfl⟩, by decide⟩
theorem dX11_init_180 : gw_dc cX11_init 180 (.aload_n 0) 1 181 := ⟨by decide +kernel, rfl⟩
theorem dX11_init_181 : gw_dc cX11_init 181 (.iconst 4) 1 182 := ⟨by decide +kernel, rfl⟩
theorem dX11_init_182 : gw_dc cX11_init 182 (.newarray .int) 2 184 := ⟨by decide +kernel, rfl⟩
theorem dX11_init_184 : gw_dc cX11_init 184 (.dup) 1 185 := ⟨by decide +kernel, rfl⟩
theorem dX11_init_185 : gw_dc cX11_init 185 (.iconst 0) 1 186 := ⟨by decide +kernel, rfl⟩
theorem dX11_init_186 : gw_dc cX11_init 186 (.iconst (-1)) 1 187 := ⟨by decide +kernel, rfl⟩
theorem dX11_init_187 : gw_dc cX11_init 187 (.iastore) 1 188 := ⟨by decide +kernel, rfl⟩
theorem dX11_init_188 : gw_dc cX11_init 188 (.dup) 1 189 := ⟨by decide +kernel, rfl⟩
theorem dX11_init_189 : gw_dc cX11_init 189 (.iconst 1) 1 190 := ⟨by decide +kernel, rfl⟩
theorem dX11_init_190 : gw_dc cX11_init 190 (.iconst (-1)) 1 191 := ⟨by decide +kernel, rfl⟩
theorem dX11_init_191 : gw_dc cX11_init 191 (.iastore) 1 192 := ⟨by decide +kernel, rfl⟩
theorem dX11_init_192 : gw_dc cX11_init 192 (.dup) 1 193 := ⟨by decide +kernel, rfl⟩
theorem dX11_init_193 : gw_dc cX11_init 193 (.iconst 2) 1 194 := ⟨by decide +kernel, rfl⟩
theorem dX11_init_194 : gw_dc cX11_init 194 (.iconst (-1)) 1 195 := ⟨by decide +kernel, rfl⟩
theorem dX11_init_195 : gw_dc cX11_init 195 (.iastore) 1 196 := ⟨by decide +kernel, rfl⟩
theorem dX11_init_196 : gw_dc cX11_init 196 (.dup) 1 197 := ⟨by decide +kernel, rfl⟩
theorem dX11_init_197 : gw_dc cX11_init 197 (.iconst 3) 1 198 := ⟨by decide +kernel, rfl⟩
theorem dX11_init_198 : gw_dc cX11_init 198 (.iconst (-1)) 1 199 := ⟨by decide +kernel, rfl⟩
theorem dX11_init_199 : gw_dc cX11_init 199 (.iastore) 1 200 := ⟨by decide +kernel, rfl⟩
theorem dX11_init_200 : gw_dc cX11_init 200 (.putfield 78) 3 203 := ⟨by decide +kernel, rfl⟩
theorem pf_RX11_78 : gw_pf RX11 78 11 39 42 := ⟨_, _, _, ck_11, by decide, gw_mem 1460 (by decide +kernel) rfl, rfl, rfl, Or.inr ⟨_, rfl⟩, by decide⟩
theorem dX11_init_203 : gw_dc cX11_init 203 (.aload_n 0) 1 204 := ⟨by decide +kernel, rfl⟩
theorem dX11_init_204 : gw_dc cX11_init 204 (.iconst 4) 1 205 := ⟨by decide +kernel, rfl⟩
theorem dX11_init_205 : gw_dc cX11_init 205 (.newarray .int) 2 207 := ⟨by decide +kernel, rfl⟩
theorem dX11_init_207 : gw_dc cX11_init 207 (.putfield 81) 3 210 := ⟨by decide +kernel, rfl⟩
theorem pf_RX11_81 : gw_pf RX11 81 11 40 42 := ⟨_, _, _, ck_11, by decide, gw_mem 1461 (by decide +kernel) rfl, rfl, rfl, Or.inr ⟨_, rfl⟩, by decide⟩
theorem dX11_init_210 : gw_dc cX11_init 210 (.aload_n 0) 1 211 := ⟨by decide +kernel, rfl⟩
theorem dX11_init_211 : gw_dc cX11_init 211 (.sipush 240) 3 214 := ⟨by decide +kernel, rfl⟩
theorem dX11_init_214 : gw_dc cX11_init 214 (.newarray .long) 2 216 := ⟨by decide +kernel, rfl⟩
theorem dX11_init_216 : gw_dc cX11_init 216 (.putfield 84) 3 219 := ⟨by decide +kernel, rfl⟩
theorem pf_RX11_84 : gw_pf RX11 84 11 41 42 := ⟨_, _, _, ck_11, by decide, gw_mem 1462 (by decide +kernel) rfl, rfl, rfl, Or.inr ⟨_, rfl⟩, by decide⟩
theorem dX11_init_219 : gw_dc cX11_init 219 (.aload_n 0) 1 220 := ⟨by decide +kernel, rfl⟩
theorem dX11_init_220 : gw_dc cX11_init 220 (.getfield 9) 3 223 := ⟨by decide +kernel, rfl⟩
theorem dX11_init_223 : gw_dc cX11_init 223 (.bipush 8) 2 225 := ⟨by decide +kernel, rfl⟩
theorem dX11_init_225 : gw_dc cX11_init 225 (.iconst 1) 1 226 := ⟨by decide +kernel, rfl⟩
theorem dX11_init_226 : gw_dc cX11_init 226 (.iastore) 1 227 := ⟨by decide +kernel, rfl⟩
theorem dX11_init_227 : decode cX11_init 227 = .ok (.return_, 1) := by decide +kernel
theorem dX10_init_0 : gw_dc cX10_init 0 (.aload_n 0) 1 1 := ⟨by decide +kernel, rfl⟩
theorem dX10_init_1 : gw_dc cX10_init 1 (.invokespecial 1) 3 4 := ⟨by decide +kernel, rfl⟩
theorem oi_RX10 : Cond.methodLink RX10 1 objectInit ∈ wsG := gw_mem 124 (by decide +kernel) rfl
theorem dX10_init_4 : gw_dc cX10_init 4 (.aload_n 0) 1 5 := ⟨by decide +kernel, rfl⟩
theorem dX10_init_5 : gw_dc cX10_init 5 (.new 7) 3 8 := ⟨by decide +kernel, rfl⟩
theorem cl_RX10_7 : Cond.classLink RX10 7 "LightestSack$Tape" ∈ wsG := gw_mem 127 (by decide +kernel) rfl
theorem ii_7 : Cond.instantiable RX7 2 ∈ wsG := gw_mem 128 (by decide +kernel) rfl
theorem ij_7 : Cond.initialized RX7 ∈ wsG := gw_mem 96 (by decide +kernel) rfl
theorem dX10_init_8 : gw_dc cX10_init 8 (.dup) 1 9 := ⟨by decide +kernel, rfl⟩
theorem dX10_init_9 : gw_dc cX10_init 9 (.invokespecial 9) 3 12 := ⟨by decide +kernel, rfl⟩
theorem mi_RX10_9 : gw_mi RX10 9 yX7_init := ⟨rfl, gw_mem 130 (by decide +kernel) rfl, Or.inr ⟨"LightestSack", gw_memN 129 (by decide +kernel) rfl⟩⟩
theorem my_X7_init : gw_my yX7_init cX7_init 1 none 0 := ⟨gw_mem 131 (by decide +kernel) rfl, gw_mem 96 (by decide +kernel) rfl, by decide +kernel, by decide⟩
theorem dX10_init_12 : gw_dc cX10_init 12 (.putfield 10) 3 15 := ⟨by decide +kernel, rfl⟩
theorem pf_RX10_10 : gw_pf RX10 10 10 0 14 := ⟨_, _, _, ck_10, by decide, gw_mem 505 (by decide +kernel) rfl, rfl, rfl, Or.inl ⟨_, rfl⟩, by decide⟩
theorem dX10_init_15 : gw_dc cX10_init 15 (.aload_n 0) 1 16 := ⟨by decide +kernel, rfl⟩
theorem dX10_init_16 : gw_dc cX10_init 16 (.new 16) 3 19 := ⟨by decide +kernel, rfl⟩
theorem cl_RX10_16 : Cond.classLink RX10 16 "LightestSack$Reader" ∈ wsG := gw_mem 142 (by decide +kernel) rfl
theorem ii_3 : Cond.instantiable RX3 8 ∈ wsG := gw_mem 143 (by decide +kernel) rfl
theorem ij_3 : Cond.initialized RX3 ∈ wsG := gw_mem 97 (by decide +kernel) rfl
theorem dX10_init_19 : gw_dc cX10_init 19 (.dup) 1 20 := ⟨by decide +kernel, rfl⟩
theorem dX10_init_20 : gw_dc cX10_init 20 (.aload_n 0) 1 21 := ⟨by decide +kernel, rfl⟩
theorem dX10_init_21 : gw_dc cX10_init 21 (.getfield 10) 3 24 := ⟨by decide +kernel, rfl⟩
theorem dX10_init_24 : gw_dc cX10_init 24 (.invokespecial 18) 3 27 := ⟨by decide +kernel, rfl⟩
theorem mi_RX10_18 : gw_mi RX10 18 yX3_init := ⟨rfl, gw_mem 145 (by decide +kernel) rfl, Or.inl (gw_mem 144 (by decide +kernel) rfl)⟩
theorem my_X3_init : gw_my yX3_init cX3_init 2 none 1 := ⟨gw_mem 146 (by decide +kernel) rfl, gw_mem 97 (by decide +kernel) rfl, by decide +kernel, by decide⟩
theorem dX10_init_27 : gw_dc cX10_init 27 (.putfield 21) 3 30 := ⟨by decide +kernel, rfl⟩
theorem pf_RX10_21 : gw_pf RX10 21 10 1 14 := ⟨_, _, _, ck_10, by decide, gw_mem 506 (by decide +kernel) rfl, rfl, rfl, Or.inl ⟨_, rfl⟩, by decide⟩
theorem dX10_init_30 : gw_dc cX10_init 30 (.aload_n 0) 1 31 := ⟨by decide +kernel, rfl⟩
theorem dX10_init_31 : gw_dc cX10_init 31 (.new 25) 3 34 := ⟨by decide +kernel, rfl⟩
theorem cl_RX10_25 : Cond.classLink RX10 25 "LightestSack$Mill" ∈ wsG := gw_mem 175 (by decide +kernel) rfl
theorem ii_1 : Cond.instantiable RX1 16 ∈ wsG := gw_mem 176 (by decide +kernel) rfl
theorem ij_1 : Cond.initialized RX1 ∈ wsG := gw_mem 98 (by decide +kernel) rfl
theorem dX10_init_34 : gw_dc cX10_init 34 (.dup) 1 35 := ⟨by decide +kernel, rfl⟩
theorem dX10_init_35 : gw_dc cX10_init 35 (.invokespecial 27) 3 38 := ⟨by decide +kernel, rfl⟩
theorem mi_RX10_27 : gw_mi RX10 27 yX1_init := ⟨rfl, gw_mem 178 (by decide +kernel) rfl, Or.inr ⟨"LightestSack", gw_memN 177 (by decide +kernel) rfl⟩⟩
theorem my_X1_init : gw_my yX1_init cX1_init 1 none 0 := ⟨gw_mem 179 (by decide +kernel) rfl, gw_mem 98 (by decide +kernel) rfl, by decide +kernel, by decide⟩
theorem dX10_init_38 : gw_dc cX10_init 38 (.putfield 28) 3 41 := ⟨by decide +kernel, rfl⟩
theorem pf_RX10_28 : gw_pf RX10 28 10 2 14 := ⟨_, _, _, ck_10, by decide, gw_mem 507 (by decide +kernel) rfl, rfl, rfl, Or.inl ⟨_, rfl⟩, by decide⟩
theorem dX10_init_41 : gw_dc cX10_init 41 (.aload_n 0) 1 42 := ⟨by decide +kernel, rfl⟩
theorem dX10_init_42 : gw_dc cX10_init 42 (.new 32) 3 45 := ⟨by decide +kernel, rfl⟩
theorem cl_RX10_32 : Cond.classLink RX10 32 "LightestSack$Run" ∈ wsG := gw_mem 318 (by decide +kernel) rfl
theorem ii_5 : Cond.instantiable RX5 15 ∈ wsG := gw_mem 319 (by decide +kernel) rfl
theorem ij_5 : Cond.initialized RX5 ∈ wsG := gw_mem 101 (by decide +kernel) rfl
theorem dX10_init_45 : gw_dc cX10_init 45 (.dup) 1 46 := ⟨by decide +kernel, rfl⟩
theorem dX10_init_46 : gw_dc cX10_init 46 (.aload_n 0) 1 47 := ⟨by decide +kernel, rfl⟩
theorem dX10_init_47 : gw_dc cX10_init 47 (.getfield 28) 3 50 := ⟨by decide +kernel, rfl⟩
theorem dX10_init_50 : gw_dc cX10_init 50 (.invokespecial 34) 3 53 := ⟨by decide +kernel, rfl⟩
theorem mi_RX10_34 : gw_mi RX10 34 yX5_init := ⟨rfl, gw_mem 321 (by decide +kernel) rfl, Or.inl (gw_mem 320 (by decide +kernel) rfl)⟩
theorem my_X5_init : gw_my yX5_init cX5_init 2 none 1 := ⟨gw_mem 322 (by decide +kernel) rfl, gw_mem 101 (by decide +kernel) rfl, by decide +kernel, by decide⟩
theorem dX10_init_53 : gw_dc cX10_init 53 (.putfield 37) 3 56 := ⟨by decide +kernel, rfl⟩
theorem pf_RX10_37 : gw_pf RX10 37 10 3 14 := ⟨_, _, _, ck_10, by decide, gw_mem 508 (by decide +kernel) rfl, rfl, rfl, Or.inl ⟨_, rfl⟩, by decide⟩
theorem dX10_init_56 : gw_dc cX10_init 56 (.aload_n 0) 1 57 := ⟨by decide +kernel, rfl⟩
theorem dX10_init_57 : gw_dc cX10_init 57 (.new 25) 3 60 := ⟨by decide +kernel, rfl⟩
theorem dX10_init_60 : gw_dc cX10_init 60 (.dup) 1 61 := ⟨by decide +kernel, rfl⟩
theorem dX10_init_61 : gw_dc cX10_init 61 (.invokespecial 27) 3 64 := ⟨by decide +kernel, rfl⟩
theorem dX10_init_64 : gw_dc cX10_init 64 (.putfield 41) 3 67 := ⟨by decide +kernel, rfl⟩
theorem pf_RX10_41 : gw_pf RX10 41 10 4 14 := ⟨_, _, _, ck_10, by decide, gw_mem 509 (by decide +kernel) rfl, rfl, rfl, Or.inl ⟨_, rfl⟩, by decide⟩
theorem dX10_init_67 : gw_dc cX10_init 67 (.aload_n 0) 1 68 := ⟨by decide +kernel, rfl⟩
theorem dX10_init_68 : gw_dc cX10_init 68 (.new 44) 3 71 := ⟨by decide +kernel, rfl⟩
theorem cl_RX10_44 : Cond.classLink RX10 44 "LightestSack$Texts" ∈ wsG := gw_mem 384 (by decide +kernel) rfl
theorem ii_8 : Cond.instantiable RX8 2 ∈ wsG := gw_mem 385 (by decide +kernel) rfl
theorem ij_8 : Cond.initialized RX8 ∈ wsG := gw_mem 102 (by decide +kernel) rfl
theorem dX10_init_71 : gw_dc cX10_init 71 (.dup) 1 72 := ⟨by decide +kernel, rfl⟩
theorem dX10_init_72 : gw_dc cX10_init 72 (.aload_n 0) 1 73 := ⟨by decide +kernel, rfl⟩
theorem dX10_init_73 : gw_dc cX10_init 73 (.getfield 21) 3 76 := ⟨by decide +kernel, rfl⟩
theorem dX10_init_76 : gw_dc cX10_init 76 (.aload_n 0) 1 77 := ⟨by decide +kernel, rfl⟩
theorem dX10_init_77 : gw_dc cX10_init 77 (.getfield 41) 3 80 := ⟨by decide +kernel, rfl⟩
theorem dX10_init_80 : gw_dc cX10_init 80 (.invokespecial 46) 3 83 := ⟨by decide +kernel, rfl⟩
theorem mi_RX10_46 : gw_mi RX10 46 yX8_init := ⟨rfl, gw_mem 387 (by decide +kernel) rfl, Or.inl (gw_mem 386 (by decide +kernel) rfl)⟩
theorem my_X8_init : gw_my yX8_init cX8_init 3 none 2 := ⟨gw_mem 388 (by decide +kernel) rfl, gw_mem 102 (by decide +kernel) rfl, by decide +kernel, by decide⟩
theorem dX10_init_83 : gw_dc cX10_init 83 (.putfield 49) 3 86 := ⟨by decide +kernel, rfl⟩
theorem pf_RX10_49 : gw_pf RX10 49 10 5 14 := ⟨_, _, _, ck_10, by decide, gw_mem 510 (by decide +kernel) rfl, rfl, rfl, Or.inl ⟨_, rfl⟩, by decide⟩
theorem dX10_init_86 : gw_dc cX10_init 86 (.aload_n 0) 1 87 := ⟨by decide +kernel, rfl⟩
theorem dX10_init_87 : gw_dc cX10_init 87 (.new 25) 3 90 := ⟨by decide +kernel, rfl⟩
theorem dX10_init_90 : gw_dc cX10_init 90 (.dup) 1 91 := ⟨by decide +kernel, rfl⟩
theorem dX10_init_91 : gw_dc cX10_init 91 (.invokespecial 27) 3 94 := ⟨by decide +kernel, rfl⟩
theorem dX10_init_94 : gw_dc cX10_init 94 (.putfield 53) 3 97 := ⟨by decide +kernel, rfl⟩
theorem pf_RX10_53 : gw_pf RX10 53 10 6 14 := ⟨_, _, _, ck_10, by decide, gw_mem 511 (by decide +kernel) rfl, rfl, rfl, Or.inl ⟨_, rfl⟩, by decide⟩
theorem dX10_init_97 : gw_dc cX10_init 97 (.aload_n 0) 1 98 := ⟨by decide +kernel, rfl⟩
theorem dX10_init_98 : gw_dc cX10_init 98 (.new 32) 3 101 := ⟨by decide +kernel, rfl⟩
theorem dX10_init_101 : gw_dc cX10_init 101 (.dup) 1 102 := ⟨by decide +kernel, rfl⟩
theorem dX10_init_102 : gw_dc cX10_init 102 (.aload_n 0) 1 103 := ⟨by decide +kernel, rfl⟩
theorem dX10_init_103 : gw_dc cX10_init 103 (.getfield 53) 3 106 := ⟨by decide +kernel, rfl⟩
theorem dX10_init_106 : gw_dc cX10_init 106 (.invokespecial 34) 3 109 := ⟨by decide +kernel, rfl⟩
theorem dX10_init_109 : gw_dc cX10_init 109 (.putfield 56) 3 112 := ⟨by decide +kernel, rfl⟩
theorem pf_RX10_56 : gw_pf RX10 56 10 7 14 := ⟨_, _, _, ck_10, by decide, gw_mem 512 (by decide +kernel) rfl, rfl, rfl, Or.inl ⟨_, rfl⟩, by decide⟩
theorem dX10_init_112 : gw_dc cX10_init 112 (.aload_n 0) 1 113 := ⟨by decide +kernel, rfl⟩
theorem dX10_init_113 : gw_dc cX10_init 113 (.new 59) 3 116 := ⟨by decide +kernel, rfl⟩
theorem cl_RX10_59 : Cond.classLink RX10 59 "LightestSack$Partings" ∈ wsG := gw_mem 397 (by decide +kernel) rfl
theorem ii_2 : Cond.instantiable RX2 8 ∈ wsG := gw_mem 398 (by decide +kernel) rfl
theorem ij_2 : Cond.initialized RX2 ∈ wsG := gw_mem 103 (by decide +kernel) rfl
theorem dX10_init_116 : gw_dc cX10_init 116 (.dup) 1 117 := ⟨by decide +kernel, rfl⟩
theorem dX10_init_117 : gw_dc cX10_init 117 (.aload_n 0) 1 118 := ⟨by decide +kernel, rfl⟩
theorem dX10_init_118 : gw_dc cX10_init 118 (.getfield 53) 3 121 := ⟨by decide +kernel, rfl⟩
theorem dX10_init_121 : gw_dc cX10_init 121 (.aload_n 0) 1 122 := ⟨by decide +kernel, rfl⟩
theorem dX10_init_122 : gw_dc cX10_init 122 (.getfield 56) 3 125 := ⟨by decide +kernel, rfl⟩
theorem dX10_init_125 : gw_dc cX10_init 125 (.invokespecial 61) 3 128 := ⟨by decide +kernel, rfl⟩
theorem mi_RX10_61 : gw_mi RX10 61 yX2_init := ⟨rfl, gw_mem 400 (by decide +kernel) rfl, Or.inl (gw_mem 399 (by decide +kernel) rfl)⟩
theorem my_X2_init : gw_my yX2_init cX2_init 3 none 2 := ⟨gw_mem 401 (by decide +kernel) rfl, gw_mem 103 (by decide +kernel) rfl, by decide +kernel, by decide⟩
theorem dX10_init_128 : gw_dc cX10_init 128 (.putfield 64) 3 131 := ⟨by decide +kernel, rfl⟩
theorem pf_RX10_64 : gw_pf RX10 64 10 8 14 := ⟨_, _, _, ck_10, by decide, gw_mem 513 (by decide +kernel) rfl, rfl, rfl, Or.inl ⟨_, rfl⟩, by decide⟩
theorem dX10_init_131 : gw_dc cX10_init 131 (.aload_n 0) 1 132 := ⟨by decide +kernel, rfl⟩
theorem dX10_init_132 : gw_dc cX10_init 132 (.new 68) 3 135 := ⟨by decide +kernel, rfl⟩
theorem cl_RX10_68 : Cond.classLink RX10 68 "LightestSack$Search" ∈ wsG := gw_mem 433 (by decide +kernel) rfl
theorem ii_6 : Cond.instantiable RX6 10 ∈ wsG := gw_mem 434 (by decide +kernel) rfl
theorem ij_6 : Cond.initialized RX6 ∈ wsG := gw_mem 104 (by decide +kernel) rfl
theorem dX10_init_135 : gw_dc cX10_init 135 (.dup) 1 136 := ⟨by decide +kernel, rfl⟩
theorem dX10_init_136 : gw_dc cX10_init 136 (.aload_n 0) 1 137 := ⟨by decide +kernel, rfl⟩
theorem dX10_init_137 : gw_dc cX10_init 137 (.getfield 28) 3 140 := ⟨by decide +kernel, rfl⟩
theorem dX10_init_140 : gw_dc cX10_init 140 (.aload_n 0) 1 141 := ⟨by decide +kernel, rfl⟩
theorem dX10_init_141 : gw_dc cX10_init 141 (.getfield 37) 3 144 := ⟨by decide +kernel, rfl⟩
theorem dX10_init_144 : gw_dc cX10_init 144 (.invokespecial 70) 3 147 := ⟨by decide +kernel, rfl⟩
theorem mi_RX10_70 : gw_mi RX10 70 yX6_init := ⟨rfl, gw_mem 436 (by decide +kernel) rfl, Or.inl (gw_mem 435 (by decide +kernel) rfl)⟩
theorem my_X6_init : gw_my yX6_init cX6_init 3 none 2 := ⟨gw_mem 437 (by decide +kernel) rfl, gw_mem 104 (by decide +kernel) rfl, by decide +kernel, by decide⟩
theorem dX10_init_147 : gw_dc cX10_init 147 (.putfield 71) 3 150 := ⟨by decide +kernel, rfl⟩
theorem pf_RX10_71 : gw_pf RX10 71 10 9 14 := ⟨_, _, _, ck_10, by decide, gw_mem 514 (by decide +kernel) rfl, rfl, rfl, Or.inl ⟨_, rfl⟩, by decide⟩
theorem dX10_init_150 : gw_dc cX10_init 150 (.aload_n 0) 1 151 := ⟨by decide +kernel, rfl⟩
theorem dX10_init_151 : gw_dc cX10_init 151 (.new 75) 3 154 := ⟨by decide +kernel, rfl⟩
theorem cl_RX10_75 : Cond.classLink RX10 75 "LightestSack$Row" ∈ wsG := gw_mem 474 (by decide +kernel) rfl
theorem dX10_init_154 : gw_dc cX10_init 154 (.dup) 1 155 := ⟨by decide +kernel, rfl⟩
theorem dX10_init_155 : gw_dc cX10_init 155 (.bipush 60) 2 157 := ⟨by decide +kernel, rfl⟩
theorem dX10_init_157 : gw_dc cX10_init 157 (.invokespecial 77) 3 160 := ⟨by decide +kernel, rfl⟩
theorem mi_RX10_77 : gw_mi RX10 77 yX4_init := ⟨rfl, gw_mem 190 (by decide +kernel) rfl, Or.inl (gw_mem 475 (by decide +kernel) rfl)⟩
theorem dX10_init_160 : gw_dc cX10_init 160 (.putfield 80) 3 163 := ⟨by decide +kernel, rfl⟩
theorem pf_RX10_80 : gw_pf RX10 80 10 10 14 := ⟨_, _, _, ck_10, by decide, gw_mem 515 (by decide +kernel) rfl, rfl, rfl, Or.inl ⟨_, rfl⟩, by decide⟩
theorem dX10_init_163 : gw_dc cX10_init 163 (.aload_n 0) 1 164 := ⟨by decide +kernel, rfl⟩
theorem dX10_init_164 : gw_dc cX10_init 164 (.new 75) 3 167 := ⟨by decide +kernel, rfl⟩
theorem dX10_init_167 : gw_dc cX10_init 167 (.dup) 1 168 := ⟨by decide +kernel, rfl⟩
theorem dX10_init_168 : gw_dc cX10_init 168 (.bipush 60) 2 170 := ⟨by decide +kernel, rfl⟩
theorem dX10_init_170 : gw_dc cX10_init 170 (.invokespecial 77) 3 173 := ⟨by decide +kernel, rfl⟩
theorem dX10_init_173 : gw_dc cX10_init 173 (.putfield 84) 3 176 := ⟨by decide +kernel, rfl⟩
theorem pf_RX10_84 : gw_pf RX10 84 10 11 14 := ⟨_, _, _, ck_10, by decide, gw_mem 516 (by decide +kernel) rfl, rfl, rfl, Or.inl ⟨_, rfl⟩, by decide⟩
theorem dX10_init_176 : gw_dc cX10_init 176 (.aload_n 0) 1 177 := ⟨by decide +kernel, rfl⟩
theorem dX10_init_177 : gw_dc cX10_init 177 (.iconst 4) 1 178 := ⟨by decide +kernel, rfl⟩
theorem cl_RX10_87 : Cond.classLink RX10 87 "LightestSack$Tray" ∈ wsG := gw_mem 476 (by decide +kernel) rfl
theorem dX10_init_178 : gw_dc cX10_init 178 (.anewarray 87) 3 181 := ⟨by decide +kernel, rfl⟩
theorem pf_RX10_89 : gw_pf RX10 89 10 12 14 := ⟨_, _, _, ck_10, by decide, gw_mem 517 (by decide +kernel) rfl, rfl, rfl, Or.inr ⟨_, rfl⟩, by decide⟩
theorem dX10_init_181 : gw_dc cX10_init 181 (.putfield 89) 3 184 := ⟨by decide +kernel, rfl⟩
theorem dX10_init_184 : gw_dc cX10_init 184 (.aload_n 0) 1 185 := ⟨by decide +kernel, rfl⟩
theorem dX10_init_185 : gw_dc cX10_init 185 (.iconst 3) 1 186 := ⟨by decide +kernel, rfl⟩
theorem dX10_init_186 : gw_dc cX10_init 186 (.anewarray 25) 3 189 := ⟨by decide +kernel, rfl⟩
theorem pf_RX10_93 : gw_pf RX10 93 10 13 14 := ⟨_, _, _, ck_10, by decide, gw_mem 518 (by decide +kernel) rfl, rfl, rfl, Or.inr ⟨_, rfl⟩, by decide⟩
theorem dX10_init_189 : gw_dc cX10_init 189 (.putfield 93) 3 192 := ⟨by decide +kernel, rfl⟩
theorem dX10_init_192 : gw_dc cX10_init 192 (.iconst 0) 1 193 := ⟨by decide +kernel, rfl⟩
theorem dX10_init_193 : gw_dc cX10_init 193 (.istore_n 1) 1 194 := ⟨by decide +kernel, rfl⟩
theorem dX10_init_194 : gw_dc cX10_init 194 (.iload_n 1) 1 195 := ⟨by decide +kernel, rfl⟩
theorem dX10_init_195 : gw_dc cX10_init 195 (.aload_n 0) 1 196 := ⟨by decide +kernel, rfl⟩
theorem dX10_init_196 : gw_dc cX10_init 196 (.getfield 89) 3 199 := ⟨by decide +kernel, rfl⟩
theorem dX10_init_199 : gw_dc cX10_init 199 (.arraylength) 1 200 := ⟨by decide +kernel, rfl⟩
theorem dX10_init_200 : gw_dc cX10_init 200 (.if_icmp .ge 22) 3 203 := ⟨by decide +kernel, rfl⟩
theorem dX10_init_203 : gw_dc cX10_init 203 (.aload_n 0) 1 204 := ⟨by decide +kernel, rfl⟩
theorem dX10_init_204 : gw_dc cX10_init 204 (.getfield 89) 3 207 := ⟨by decide +kernel, rfl⟩
theorem dX10_init_207 : gw_dc cX10_init 207 (.iload_n 1) 1 208 := ⟨by decide +kernel, rfl⟩
theorem ii_9 : Cond.instantiable RX9 3 ∈ wsG := gw_mem 479 (by decide +kernel) rfl
theorem ij_9 : Cond.initialized RX9 ∈ wsG := gw_mem 105 (by decide +kernel) rfl
theorem dX10_init_208 : gw_dc cX10_init 208 (.new 87) 3 211 := ⟨by decide +kernel, rfl⟩
theorem dX10_init_211 : gw_dc cX10_init 211 (.dup) 1 212 := ⟨by decide +kernel, rfl⟩
theorem mi_RX10_97 : gw_mi RX10 97 yX9_init := ⟨rfl, gw_mem 481 (by decide +kernel) rfl, Or.inr ⟨"LightestSack", gw_memN 480 (by decide +kernel) rfl⟩⟩
theorem my_X9_init : gw_my yX9_init cX9_init 1 none 0 := ⟨gw_mem 482 (by decide +kernel) rfl, gw_mem 105 (by decide +kernel) rfl, by decide +kernel, by decide⟩
theorem in_149 : 149 ∈ gw_trays := by decide +kernel
theorem dX10_init_212 : gw_dc cX10_init 212 (.invokespecial 97) 3 215 := ⟨by decide +kernel, rfl⟩
theorem dX10_init_215 : gw_dc cX10_init 215 (.aastore) 1 216 := ⟨by decide +kernel, rfl⟩
theorem dX10_init_216 : gw_dc cX10_init 216 (.iinc 1 1) 3 219 := ⟨by decide +kernel, rfl⟩
theorem dX10_init_219 : gw_dc cX10_init 219 (.goto (-25)) 3 222 := ⟨by decide +kernel, rfl⟩
theorem in_151 : 151 ∈ gw_trays := by decide +kernel
theorem in_153 : 153 ∈ gw_trays := by decide +kernel
theorem in_155 : 155 ∈ gw_trays := by decide +kernel
theorem dX10_init_222 : gw_dc cX10_init 222 (.iconst 0) 1 223 := ⟨by decide +kernel, rfl⟩
theorem dX10_init_223 : gw_dc cX10_init 223 (.istore_n 1) 1 224 := ⟨by decide +kernel, rfl⟩
theorem dX10_init_224 : gw_dc cX10_init 224 (.iload_n 1) 1 225 := ⟨by decide +kernel, rfl⟩
theorem dX10_init_225 : gw_dc cX10_init 225 (.aload_n 0) 1 226 := ⟨by decide +kernel, rfl⟩
theorem dX10_init_226 : gw_dc cX10_init 226 (.getfield 93) 3 229 := ⟨by decide +kernel, rfl⟩
theorem dX10_init_229 : gw_dc cX10_init 229 (.arraylength) 1 230 := ⟨by decide +kernel, rfl⟩
theorem dX10_init_230 : gw_dc cX10_init 230 (.if_icmp .ge 22) 3 233 := ⟨by decide +kernel, rfl⟩
theorem dX10_init_233 : gw_dc cX10_init 233 (.aload_n 0) 1 234 := ⟨by decide +kernel, rfl⟩
theorem dX10_init_234 : gw_dc cX10_init 234 (.getfield 93) 3 237 := ⟨by decide +kernel, rfl⟩
theorem dX10_init_237 : gw_dc cX10_init 237 (.iload_n 1) 1 238 := ⟨by decide +kernel, rfl⟩
theorem dX10_init_238 : gw_dc cX10_init 238 (.new 25) 3 241 := ⟨by decide +kernel, rfl⟩
theorem dX10_init_241 : gw_dc cX10_init 241 (.dup) 1 242 := ⟨by decide +kernel, rfl⟩
theorem in_157 : 157 ∈ gw_mills := by decide +kernel
theorem dX10_init_242 : gw_dc cX10_init 242 (.invokespecial 27) 3 245 := ⟨by decide +kernel, rfl⟩
theorem dX10_init_245 : gw_dc cX10_init 245 (.aastore) 1 246 := ⟨by decide +kernel, rfl⟩
theorem dX10_init_246 : gw_dc cX10_init 246 (.iinc 1 1) 3 249 := ⟨by decide +kernel, rfl⟩
theorem dX10_init_249 : gw_dc cX10_init 249 (.goto (-25)) 3 252 := ⟨by decide +kernel, rfl⟩
theorem in_179 : 179 ∈ gw_mills := by decide +kernel
theorem in_201 : 201 ∈ gw_mills := by decide +kernel
theorem dX10_init_252 : gw_dc cX10_init 252 (.aload_n 0) 1 253 := ⟨by decide +kernel, rfl⟩
theorem dX10_init_253 : gw_dc cX10_init 253 (.getfield 28) 3 256 := ⟨by decide +kernel, rfl⟩
theorem mv_RX10_98 : gw_mv RX10 98 yX1_standAtLeastOneStone := ⟨gw_mem 496 (by decide +kernel) rfl, gw_mem 497 (by decide +kernel) rfl, gw_mem 498 (by decide +kernel) rfl⟩
theorem dX10_init_256 : gw_dc cX10_init 256 (.invokevirtual 98) 3 259 := ⟨by decide +kernel, rfl⟩
theorem dX10_init_259 : decode cX10_init 259 = .ok (.return_, 1) := by decide +kernel
/-- the model at first -/
def zMD (σ : Sg) : Sg := su (su (su (su (su (su σ 223 16 (-1)) 245 (Int.toNat 0) (-1)) 245 (Int.toNat 1) (-1)) 245 (Int.toNat 2) (-1)) 245 (Int.toNat 3) (-1)) 224 (Int.toNat 8) (1)
set_option maxRecDepth 4000 in
theorem s_X11_init (ad : Nat → Nat) (σ : Sg) (ρ : Rf) (hσ : ∀ i, 223 ≤ i → ∀ j, σ i j = 0) : gw_Sp yX11_init cX11_init 1 none 1 24 6373 [vR (some 223)] (224, ad, rM ρ 223 [] 224) σ (gw_Cn 223 25 ρ (zMD σ)) gw_no := by
  refine gw_Sp.of [some (vR (some 223))] (by decide +kernel) rfl (Nat.le_of_ble_eq_true rfl) ?_
  intro X G fx het hnm
  refine g_aload_n fx dX11_init_0 rfl ?_
  refine g_objInit fx dX11_init_1 oi_RX11 oi_i oi_c (Nat.le_of_ble_eq_true rfl) (Nat.le_of_ble_eq_true rfl) ?_
  refine g_aload_n fx dX11_init_4 rfl ?_
  refine g_sipush fx dX11_init_5 (by decide) ?_
  refine g_newIN (n := 224) (n' := 225) (Ln := 672) (kc' := 1) (ks' := 672) fx dX11_init_8 ac_int (by decide +kernel) rfl (by decide) (fun j => by (repeat rw [su_ne _ _ (Or.inl (by decide))]); exact hσ _ (by decide) j) (by omega) (rh_nil (by decide +kernel)) (rfl) ⟨rfl, rfl⟩ ⟨by decide, by decide⟩ (fun ad1 h1 => ?_)
  refine g_putN fx hnm dX11_init_10 pf_RX11_9 (by omega) (by decide +kernel) (by decide +kernel) ?_
  refine g_aload_n fx dX11_init_13 rfl ?_
  refine g_sipush fx dX11_init_14 (by decide) ?_
  refine g_newIN (n := 225) (n' := 226) (Ln := 672) (kc' := 2) (ks' := 1344) fx dX11_init_17 ac_int (by decide +kernel) rfl (by decide) (fun j => by (repeat rw [su_ne _ _ (Or.inl (by decide))]); exact hσ _ (by decide) j) (by omega) (rh_nil (by decide +kernel)) (rfl) ⟨rfl, rfl⟩ ⟨by decide, by decide⟩ (fun ad2 h2 => ?_)
  refine g_putN fx hnm dX11_init_19 pf_RX11_13 (by omega) (by decide +kernel) (by decide +kernel) ?_
  refine g_aload_n fx dX11_init_22 rfl ?_
  refine g_sipush fx dX11_init_23 (by decide) ?_
  refine g_newIN (n := 226) (n' := 227) (Ln := 672) (kc' := 3) (ks' := 2016) fx dX11_init_26 ac_int (by decide +kernel) rfl (by decide) (fun j => by (repeat rw [su_ne _ _ (Or.inl (by decide))]); exact hσ _ (by decide) j) (by omega) (rh_nil (by decide +kernel)) (rfl) ⟨rfl, rfl⟩ ⟨by decide, by decide⟩ (fun ad3 h3 => ?_)
  refine g_putN fx hnm dX11_init_28 pf_RX11_16 (by omega) (by decide +kernel) (by decide +kernel) ?_
  refine g_aload_n fx dX11_init_31 rfl ?_
  refine g_sipush fx dX11_init_32 (by decide) ?_
  refine g_newIN (n := 227) (n' := 228) (Ln := 2016) (kc' := 4) (ks' := 4032) fx dX11_init_35 ac_int (by decide +kernel) rfl (by decide) (fun j => by (repeat rw [su_ne _ _ (Or.inl (by decide))]); exact hσ _ (by decide) j) (by omega) (rh_nil (by decide +kernel)) (rfl) ⟨rfl, rfl⟩ ⟨by decide, by decide⟩ (fun ad4 h4 => ?_)
  refine g_putN fx hnm dX11_init_37 pf_RX11_19 (by omega) (by decide +kernel) (by decide +kernel) ?_
  refine g_aload_n fx dX11_init_40 rfl ?_
  refine g_iconst fx dX11_init_41 (by unfold okI; omega) ?_
  refine g_newZN (n := 228) (n' := 229) (Ln := 3) (kc' := 5) (ks' := 4035) fx dX11_init_42 ac_boolean (by decide +kernel) rfl (by decide) (fun j => by (repeat rw [su_ne _ _ (Or.inl (by decide))]); exact hσ _ (by decide) j) (by omega) (rh_nil (by decide +kernel)) (rfl) ⟨rfl, rfl⟩ ⟨by decide, by decide⟩ (fun ad5 h5 => ?_)
  refine g_putN fx hnm dX11_init_44 pf_RX11_22 (by omega) (by decide +kernel) (by decide +kernel) ?_
  refine g_aload_n fx dX11_init_47 rfl ?_
  refine g_sipush fx dX11_init_48 (by decide) ?_
  refine g_newIN (n := 229) (n' := 230) (Ln := 900) (kc' := 6) (ks' := 4935) fx dX11_init_51 ac_int (by decide +kernel) rfl (by decide) (fun j => by (repeat rw [su_ne _ _ (Or.inl (by decide))]); exact hσ _ (by decide) j) (by omega) (rh_nil (by decide +kernel)) (rfl) ⟨rfl, rfl⟩ ⟨by decide, by decide⟩ (fun ad6 h6 => ?_)
  refine g_putN fx hnm dX11_init_53 pf_RX11_26 (by omega) (by decide +kernel) (by decide +kernel) ?_
  refine g_aload_n fx dX11_init_56 rfl ?_
  refine g_iconst fx dX11_init_57 (by unfold okI; omega) ?_
  refine g_puti fx dX11_init_58 fk_RX11_29 ⟨by show _ < _; omega, by decide +kernel⟩ ?_
  refine g_aload_n fx dX11_init_61 rfl ?_
  refine g_bipush fx dX11_init_62 (by decide) ?_
  refine g_newIN (n := 230) (n' := 231) (Ln := 8) (kc' := 7) (ks' := 4943) fx dX11_init_64 ac_int (by decide +kernel) rfl (by decide) (fun j => by (repeat rw [su_ne _ _ (Or.inl (by decide))]); exact hσ _ (by decide) j) (by omega) (rh_nil (by decide +kernel)) (rfl) ⟨rfl, rfl⟩ ⟨by decide, by decide⟩ (fun ad7 h7 => ?_)
  refine g_putN fx hnm dX11_init_66 pf_RX11_33 (by omega) (by decide +kernel) (by decide +kernel) ?_
  refine g_aload_n fx dX11_init_69 rfl ?_
  refine g_bipush fx dX11_init_70 (by decide) ?_
  refine g_newIN (n := 231) (n' := 232) (Ln := 60) (kc' := 8) (ks' := 5003) fx dX11_init_72 ac_int (by decide +kernel) rfl (by decide) (fun j => by (repeat rw [su_ne _ _ (Or.inl (by decide))]); exact hσ _ (by decide) j) (by omega) (rh_nil (by decide +kernel)) (rfl) ⟨rfl, rfl⟩ ⟨by decide, by decide⟩ (fun ad8 h8 => ?_)
  refine g_putN fx hnm dX11_init_74 pf_RX11_36 (by omega) (by decide +kernel) (by decide +kernel) ?_
  refine g_aload_n fx dX11_init_77 rfl ?_
  refine g_bipush fx dX11_init_78 (by decide) ?_
  refine g_newIN (n := 232) (n' := 233) (Ln := 60) (kc' := 9) (ks' := 5063) fx dX11_init_80 ac_int (by decide +kernel) rfl (by decide) (fun j => by (repeat rw [su_ne _ _ (Or.inl (by decide))]); exact hσ _ (by decide) j) (by omega) (rh_nil (by decide +kernel)) (rfl) ⟨rfl, rfl⟩ ⟨by decide, by decide⟩ (fun ad9 h9 => ?_)
  refine g_putN fx hnm dX11_init_82 pf_RX11_39 (by omega) (by decide +kernel) (by decide +kernel) ?_
  refine g_aload_n fx dX11_init_85 rfl ?_
  refine g_bipush fx dX11_init_86 (by decide) ?_
  refine g_newIN (n := 233) (n' := 234) (Ln := 60) (kc' := 10) (ks' := 5123) fx dX11_init_88 ac_int (by decide +kernel) rfl (by decide) (fun j => by (repeat rw [su_ne _ _ (Or.inl (by decide))]); exact hσ _ (by decide) j) (by omega) (rh_nil (by decide +kernel)) (rfl) ⟨rfl, rfl⟩ ⟨by decide, by decide⟩ (fun ad10 h10 => ?_)
  refine g_putN fx hnm dX11_init_90 pf_RX11_42 (by omega) (by decide +kernel) (by decide +kernel) ?_
  refine g_aload_n fx dX11_init_93 rfl ?_
  refine g_bipush fx dX11_init_94 (by decide) ?_
  refine g_newIN (n := 234) (n' := 235) (Ln := 60) (kc' := 11) (ks' := 5183) fx dX11_init_96 ac_int (by decide +kernel) rfl (by decide) (fun j => by (repeat rw [su_ne _ _ (Or.inl (by decide))]); exact hσ _ (by decide) j) (by omega) (rh_nil (by decide +kernel)) (rfl) ⟨rfl, rfl⟩ ⟨by decide, by decide⟩ (fun ad11 h11 => ?_)
  refine g_putN fx hnm dX11_init_98 pf_RX11_45 (by omega) (by decide +kernel) (by decide +kernel) ?_
  refine g_aload_n fx dX11_init_101 rfl ?_
  refine g_bipush fx dX11_init_102 (by decide) ?_
  refine g_newIN (n := 235) (n' := 236) (Ln := 60) (kc' := 12) (ks' := 5243) fx dX11_init_104 ac_int (by decide +kernel) rfl (by decide) (fun j => by (repeat rw [su_ne _ _ (Or.inl (by decide))]); exact hσ _ (by decide) j) (by omega) (rh_nil (by decide +kernel)) (rfl) ⟨rfl, rfl⟩ ⟨by decide, by decide⟩ (fun ad12 h12 => ?_)
  refine g_putN fx hnm dX11_init_106 pf_RX11_48 (by omega) (by decide +kernel) (by decide +kernel) ?_
  refine g_aload_n fx dX11_init_109 rfl ?_
  refine g_iconst fx dX11_init_110 (by unfold okI; omega) ?_
  refine g_newIN (n := 236) (n' := 237) (Ln := 3) (kc' := 13) (ks' := 5246) fx dX11_init_111 ac_int (by decide +kernel) rfl (by decide) (fun j => by (repeat rw [su_ne _ _ (Or.inl (by decide))]); exact hσ _ (by decide) j) (by omega) (rh_nil (by decide +kernel)) (rfl) ⟨rfl, rfl⟩ ⟨by decide, by decide⟩ (fun ad13 h13 => ?_)
  refine g_putN fx hnm dX11_init_113 pf_RX11_51 (by omega) (by decide +kernel) (by decide +kernel) ?_
  refine g_aload_n fx dX11_init_116 rfl ?_
  refine g_iconst fx dX11_init_117 (by unfold okI; omega) ?_
  refine g_newIN (n := 237) (n' := 238) (Ln := 3) (kc' := 14) (ks' := 5249) fx dX11_init_118 ac_int (by decide +kernel) rfl (by decide) (fun j => by (repeat rw [su_ne _ _ (Or.inl (by decide))]); exact hσ _ (by decide) j) (by omega) (rh_nil (by decide +kernel)) (rfl) ⟨rfl, rfl⟩ ⟨by decide, by decide⟩ (fun ad14 h14 => ?_)
  refine g_putN fx hnm dX11_init_120 pf_RX11_54 (by omega) (by decide +kernel) (by decide +kernel) ?_
  refine g_aload_n fx dX11_init_123 rfl ?_
  refine g_bipush fx dX11_init_124 (by decide) ?_
  refine g_newIN (n := 238) (n' := 239) (Ln := 8) (kc' := 15) (ks' := 5257) fx dX11_init_126 ac_int (by decide +kernel) rfl (by decide) (fun j => by (repeat rw [su_ne _ _ (Or.inl (by decide))]); exact hσ _ (by decide) j) (by omega) (rh_nil (by decide +kernel)) (rfl) ⟨rfl, rfl⟩ ⟨by decide, by decide⟩ (fun ad15 h15 => ?_)
  refine g_putN fx hnm dX11_init_128 pf_RX11_57 (by omega) (by decide +kernel) (by decide +kernel) ?_
  refine g_aload_n fx dX11_init_131 rfl ?_
  refine g_bipush fx dX11_init_132 (by decide) ?_
  refine g_newIN (n := 239) (n' := 240) (Ln := 60) (kc' := 16) (ks' := 5317) fx dX11_init_134 ac_int (by decide +kernel) rfl (by decide) (fun j => by (repeat rw [su_ne _ _ (Or.inl (by decide))]); exact hσ _ (by decide) j) (by omega) (rh_nil (by decide +kernel)) (rfl) ⟨rfl, rfl⟩ ⟨by decide, by decide⟩ (fun ad16 h16 => ?_)
  refine g_putN fx hnm dX11_init_136 pf_RX11_60 (by omega) (by decide +kernel) (by decide +kernel) ?_
  refine g_aload_n fx dX11_init_139 rfl ?_
  refine g_bipush fx dX11_init_140 (by decide) ?_
  refine g_newIN (n := 240) (n' := 241) (Ln := 60) (kc' := 17) (ks' := 5377) fx dX11_init_142 ac_int (by decide +kernel) rfl (by decide) (fun j => by (repeat rw [su_ne _ _ (Or.inl (by decide))]); exact hσ _ (by decide) j) (by omega) (rh_nil (by decide +kernel)) (rfl) ⟨rfl, rfl⟩ ⟨by decide, by decide⟩ (fun ad17 h17 => ?_)
  refine g_putN fx hnm dX11_init_144 pf_RX11_63 (by omega) (by decide +kernel) (by decide +kernel) ?_
  refine g_aload_n fx dX11_init_147 rfl ?_
  refine g_bipush fx dX11_init_148 (by decide) ?_
  refine g_newIN (n := 241) (n' := 242) (Ln := 60) (kc' := 18) (ks' := 5437) fx dX11_init_150 ac_int (by decide +kernel) rfl (by decide) (fun j => by (repeat rw [su_ne _ _ (Or.inl (by decide))]); exact hσ _ (by decide) j) (by omega) (rh_nil (by decide +kernel)) (rfl) ⟨rfl, rfl⟩ ⟨by decide, by decide⟩ (fun ad18 h18 => ?_)
  refine g_putN fx hnm dX11_init_152 pf_RX11_66 (by omega) (by decide +kernel) (by decide +kernel) ?_
  refine g_aload_n fx dX11_init_155 rfl ?_
  refine g_bipush fx dX11_init_156 (by decide) ?_
  refine g_newIN (n := 242) (n' := 243) (Ln := 8) (kc' := 19) (ks' := 5445) fx dX11_init_158 ac_int (by decide +kernel) rfl (by decide) (fun j => by (repeat rw [su_ne _ _ (Or.inl (by decide))]); exact hσ _ (by decide) j) (by omega) (rh_nil (by decide +kernel)) (rfl) ⟨rfl, rfl⟩ ⟨by decide, by decide⟩ (fun ad19 h19 => ?_)
  refine g_putN fx hnm dX11_init_160 pf_RX11_69 (by omega) (by decide +kernel) (by decide +kernel) ?_
  refine g_aload_n fx dX11_init_163 rfl ?_
  refine g_bipush fx dX11_init_164 (by decide) ?_
  refine g_newIN (n := 243) (n' := 244) (Ln := 8) (kc' := 20) (ks' := 5453) fx dX11_init_166 ac_int (by decide +kernel) rfl (by decide) (fun j => by (repeat rw [su_ne _ _ (Or.inl (by decide))]); exact hσ _ (by decide) j) (by omega) (rh_nil (by decide +kernel)) (rfl) ⟨rfl, rfl⟩ ⟨by decide, by decide⟩ (fun ad20 h20 => ?_)
  refine g_putN fx hnm dX11_init_168 pf_RX11_72 (by omega) (by decide +kernel) (by decide +kernel) ?_
  refine g_aload_n fx dX11_init_171 rfl ?_
  refine g_sipush fx dX11_init_172 (by decide) ?_
  refine g_newIN (n := 244) (n' := 245) (Ln := 672) (kc' := 21) (ks' := 6125) fx dX11_init_175 ac_int (by decide +kernel) rfl (by decide) (fun j => by (repeat rw [su_ne _ _ (Or.inl (by decide))]); exact hσ _ (by decide) j) (by omega) (rh_nil (by decide +kernel)) (rfl) ⟨rfl, rfl⟩ ⟨by decide, by decide⟩ (fun ad21 h21 => ?_)
  refine g_putN fx hnm dX11_init_177 pf_RX11_75 (by omega) (by decide +kernel) (by decide +kernel) ?_
  refine g_aload_n fx dX11_init_180 rfl ?_
  refine g_iconst fx dX11_init_181 (by unfold okI; omega) ?_
  refine g_newIN (n := 245) (n' := 246) (Ln := 4) (kc' := 22) (ks' := 6129) fx dX11_init_182 ac_int (by decide +kernel) rfl (by decide) (fun j => by (repeat rw [su_ne _ _ (Or.inl (by decide))]); exact hσ _ (by decide) j) (by omega) (rh_nil (by decide +kernel)) (rfl) ⟨rfl, rfl⟩ ⟨by decide, by decide⟩ (fun ad22 h22 => ?_)
  refine g_dup fx dX11_init_184 rfl ?_
  refine g_iconst fx dX11_init_185 (by unfold okI; omega) ?_
  refine g_iconst fx dX11_init_186 (by unfold okI; omega) ?_
  refine g_iast fx dX11_init_187 (N := 4) ⟨by show _ < _; omega, by decide +kernel⟩ (by decide) (by decide) ?_
  refine g_dup fx dX11_init_188 rfl ?_
  refine g_iconst fx dX11_init_189 (by unfold okI; omega) ?_
  refine g_iconst fx dX11_init_190 (by unfold okI; omega) ?_
  refine g_iast fx dX11_init_191 (N := 4) ⟨by show _ < _; omega, by decide +kernel⟩ (by decide) (by decide) ?_
  refine g_dup fx dX11_init_192 rfl ?_
  refine g_iconst fx dX11_init_193 (by unfold okI; omega) ?_
  refine g_iconst fx dX11_init_194 (by unfold okI; omega) ?_
  refine g_iast fx dX11_init_195 (N := 4) ⟨by show _ < _; omega, by decide +kernel⟩ (by decide) (by decide) ?_
  refine g_dup fx dX11_init_196 rfl ?_
  refine g_iconst fx dX11_init_197 (by unfold okI; omega) ?_
  refine g_iconst fx dX11_init_198 (by unfold okI; omega) ?_
  refine g_iast fx dX11_init_199 (N := 4) ⟨by show _ < _; omega, by decide +kernel⟩ (by decide) (by decide) ?_
  refine g_putN fx hnm dX11_init_200 pf_RX11_78 (by omega) (by decide +kernel) (by decide +kernel) ?_
  refine g_aload_n fx dX11_init_203 rfl ?_
  refine g_iconst fx dX11_init_204 (by unfold okI; omega) ?_
  refine g_newIN (n := 246) (n' := 247) (Ln := 4) (kc' := 23) (ks' := 6133) fx dX11_init_205 ac_int (by decide +kernel) rfl (by decide) (fun j => by (repeat rw [su_ne _ _ (Or.inl (by decide))]); exact hσ _ (by decide) j) (by omega) (rh_nil (by decide +kernel)) (rfl) ⟨rfl, rfl⟩ ⟨by decide, by decide⟩ (fun ad23 h23 => ?_)
  refine g_putN fx hnm dX11_init_207 pf_RX11_81 (by omega) (by decide +kernel) (by decide +kernel) ?_
  refine g_aload_n fx dX11_init_210 rfl ?_
  refine g_sipush fx dX11_init_211 (by decide) ?_
  refine g_newJN (n := 247) (n' := 248) (Ln := 240) (kc' := 24) (ks' := 6373) fx dX11_init_214 ac_long (by decide +kernel) rfl (by decide) (fun j => by (repeat rw [su_ne _ _ (Or.inl (by decide))]); exact hσ _ (by decide) j) (by omega) (rh_nil (by decide +kernel)) (rfl) ⟨rfl, rfl⟩ ⟨by decide, by decide⟩ (fun ad24 h24 => ?_)
  refine g_putN fx hnm dX11_init_216 pf_RX11_84 (by omega) (by decide +kernel) (by decide +kernel) ?_
  refine g_aload_n fx dX11_init_219 rfl ?_
  refine g_getr fx dX11_init_220 fk_RX11_9 ⟨by show _ < _; omega, by decide +kernel⟩ (show rM ρ 223 [41, 40, 39, 36, 33, 32, 30, 29, 26, 25, 24, 23, 22, 21, 20, 19, 18, 17, 6, 4, 3, 2, 1, 0] 248 223 0 = some 224 from rM_at (by decide) (by decide +kernel)) ?_
  refine g_bipush fx dX11_init_223 (by decide) ?_
  refine g_iconst fx dX11_init_225 (by unfold okI; omega) ?_
  refine g_iast fx dX11_init_226 (N := 672) ⟨by show _ < _; omega, by decide +kernel⟩ (by decide) (by decide) ?_
  exact g_vret fx rfl dX11_init_227 (by decide) (by decide) ((((((((((((((((((((((((((adL.rf _ _).trans h1).trans h2).trans h3).trans h4).trans h5).trans h6).trans h7).trans h8).trans h9).trans h10).trans h11).trans h12).trans h13).trans h14).trans h15).trans h16).trans h17).trans h18).trans h19).trans h20).trans h21).trans h22).trans h23).trans h24).le _ _) ⟨rfl, ⟨_, by rw [rM_all (by omega) (by decide +kernel)]⟩, rfl⟩
def zA0 (σ : Sg) : Sg := su σ 3 7 (-1)
def zA1 (σ : Sg) : Sg := zLW (zA0 σ) 5
def zA2 (σ : Sg) : Sg := zLW (zA1 σ) 52
def zA3 (σ : Sg) : Sg := zLW (zA2 σ) 75
def zA4 (σ : Sg) : Sg := su (zA3 σ) 149 2 (-1)
def zA5 (σ : Sg) : Sg := su (zA4 σ) 151 2 (-1)
def zA6 (σ : Sg) : Sg := su (zA5 σ) 153 2 (-1)
def zA7 (σ : Sg) : Sg := su (zA6 σ) 155 2 (-1)
def zA8 (σ : Sg) : Sg := zLW (zA7 σ) 158
def zA9 (σ : Sg) : Sg := zLW (zA8 σ) 180
def zA10 (σ : Sg) : Sg := zLW (zA9 σ) 202
def zAll (σ : Sg) : Sg := mStand (zA10 σ) 4
theorem zA0_0 {σ : Sg} (hσ : ∀ i, 0 ≤ i → ∀ j, σ i j = 0) : ∀ i, 4 ≤ i → ∀ j, zA0 σ i j = 0 := fun i hi j => by
  unfold zA0
  exact (su_ne _ _ (Or.inl (by omega))).trans (hσ i (by omega) j)
theorem zA1_0 {σ : Sg} (hσ : ∀ i, 0 ≤ i → ∀ j, σ i j = 0) : ∀ i, 8 ≤ i → ∀ j, zA1 σ i j = 0 := fun i hi j => by
  unfold zA1
  exact (zLW_ne _ (by omega) (by omega) j).trans (zA0_0 hσ i (by omega) j)
theorem zA2_0 {σ : Sg} (hσ : ∀ i, 0 ≤ i → ∀ j, σ i j = 0) : ∀ i, 55 ≤ i → ∀ j, zA2 σ i j = 0 := fun i hi j => by
  unfold zA2
  exact (zLW_ne _ (by omega) (by omega) j).trans (zA1_0 hσ i (by omega) j)
theorem zA3_0 {σ : Sg} (hσ : ∀ i, 0 ≤ i → ∀ j, σ i j = 0) : ∀ i, 78 ≤ i → ∀ j, zA3 σ i j = 0 := fun i hi j => by
  unfold zA3
  exact (zLW_ne _ (by omega) (by omega) j).trans (zA2_0 hσ i (by omega) j)
theorem zA4_0 {σ : Sg} (hσ : ∀ i, 0 ≤ i → ∀ j, σ i j = 0) : ∀ i, 151 ≤ i → ∀ j, zA4 σ i j = 0 := fun i hi j => by
  unfold zA4
  exact (su_ne _ _ (Or.inl (by omega))).trans (zA3_0 hσ i (by omega) j)
theorem zA5_0 {σ : Sg} (hσ : ∀ i, 0 ≤ i → ∀ j, σ i j = 0) : ∀ i, 153 ≤ i → ∀ j, zA5 σ i j = 0 := fun i hi j => by
  unfold zA5
  exact (su_ne _ _ (Or.inl (by omega))).trans (zA4_0 hσ i (by omega) j)
theorem zA6_0 {σ : Sg} (hσ : ∀ i, 0 ≤ i → ∀ j, σ i j = 0) : ∀ i, 155 ≤ i → ∀ j, zA6 σ i j = 0 := fun i hi j => by
  unfold zA6
  exact (su_ne _ _ (Or.inl (by omega))).trans (zA5_0 hσ i (by omega) j)
theorem zA7_0 {σ : Sg} (hσ : ∀ i, 0 ≤ i → ∀ j, σ i j = 0) : ∀ i, 157 ≤ i → ∀ j, zA7 σ i j = 0 := fun i hi j => by
  unfold zA7
  exact (su_ne _ _ (Or.inl (by omega))).trans (zA6_0 hσ i (by omega) j)
theorem zA8_0 {σ : Sg} (hσ : ∀ i, 0 ≤ i → ∀ j, σ i j = 0) : ∀ i, 161 ≤ i → ∀ j, zA8 σ i j = 0 := fun i hi j => by
  unfold zA8
  exact (zLW_ne _ (by omega) (by omega) j).trans (zA7_0 hσ i (by omega) j)
theorem zA9_0 {σ : Sg} (hσ : ∀ i, 0 ≤ i → ∀ j, σ i j = 0) : ∀ i, 183 ≤ i → ∀ j, zA9 σ i j = 0 := fun i hi j => by
  unfold zA9
  exact (zLW_ne _ (by omega) (by omega) j).trans (zA8_0 hσ i (by omega) j)
theorem zA10_0 {σ : Sg} (hσ : ∀ i, 0 ≤ i → ∀ j, σ i j = 0) : ∀ i, 205 ≤ i → ∀ j, zA10 σ i j = 0 := fun i hi j => by
  unfold zA10
  exact (zLW_ne _ (by omega) (by omega) j).trans (zA9_0 hσ i (by omega) j)
/-- references while trays and images are laid in their rows -/
def rT (k i n : Nat) : Rf := fun a j => if a = 147 then (if j < k then gw_rh 147 j else none) else if a = 148 then (if j < i then gw_rh 148 j else none) else if a < n then gw_rh a j else none
theorem rT_top {k i n : Nat} (hn : 149 ≤ n) : ∀ a, n ≤ a → ∀ j, rT k i n a j = none := fun a ha j => by
  unfold rT
  rw [if_neg (by omega), if_neg (by omega), if_neg (by omega)]
theorem rT_0 (ρ : Rf) : rF ρ 0 147 = rT 0 0 149 := by
  funext a j
  unfold rF rT
  rw [if_neg (Nat.not_lt_zero _), if_neg (Nat.not_lt_zero _), if_neg (Nat.not_lt_zero _)]
  by_cases q : a = 147
  · rw [if_pos q, if_neg (by omega)]
  · rw [if_neg q]
    by_cases q2 : a = 148
    · rw [if_pos q2, if_neg (by omega)]
    · rw [if_neg q2]
      by_cases q3 : a < 147
      · rw [if_pos q3, if_pos (by omega)]
      · rw [if_neg q3, if_neg (by omega)]
theorem rT_out {k i n n' : Nat} (hn : 149 ≤ n) (h : n ≤ n') : rF (rT k i n) n n' = rT k i n' := by
  funext a j
  unfold rF rT
  by_cases q : a < n
  · rw [if_pos q]
    by_cases q1 : a = 147
    · rw [if_pos q1, if_pos q1]
    · rw [if_neg q1, if_neg q1]
      by_cases q2 : a = 148
      · rw [if_pos q2, if_pos q2]
      · rw [if_neg q2, if_neg q2, if_pos q, if_pos (by omega)]
  · rw [if_neg q, if_neg (show ¬ a = 147 by omega), if_neg (show ¬ a = 148 by omega)]
theorem rT_put7 {k i n t : Nat} (h : gw_rh 147 k = some t) : ru (rT k i n) 147 k (some t) = rT (k + 1) i n := by
  funext a j
  unfold ru rT
  by_cases q : a = 147 ∧ j = k
  · obtain ⟨rfl, rfl⟩ := q
    rw [if_pos ⟨rfl, rfl⟩, if_pos rfl, if_pos (by omega), h]
  · rw [if_neg q]
    by_cases q1 : a = 147
    · rw [if_pos q1, if_pos q1]
      by_cases q2 : j < k
      · rw [if_pos q2, if_pos (by omega)]
      · rw [if_neg q2, if_neg (by omega)]
    · rw [if_neg q1, if_neg q1]
theorem rT_put8 {k i n t : Nat} (h : gw_rh 148 i = some t) : ru (rT k i n) 148 i (some t) = rT k (i + 1) n := by
  funext a j
  unfold ru rT
  by_cases q : a = 148 ∧ j = i
  · obtain ⟨rfl, rfl⟩ := q
    rw [if_pos ⟨rfl, rfl⟩, if_neg (by decide), if_pos rfl, if_pos (by omega), h]
  · rw [if_neg q]
    by_cases q0 : a = 147
    · rw [if_pos q0, if_pos q0]
    · rw [if_neg q0, if_neg q0]
      by_cases q1 : a = 148
      · rw [if_pos q1, if_pos q1]
        by_cases q2 : j < i
        · rw [if_pos q2, if_pos (by omega)]
        · rw [if_neg q2, if_neg (by omega)]
      · rw [if_neg q1, if_neg q1]
theorem rh_147 : ∀ j, 4 ≤ j → gw_rh 147 j = none := fun j hj => by
  by_cases q : j < 42
  · exact (by decide +kernel : ∀ j, j < 42 → 4 ≤ j → gw_rh 147 j = none) j q hj
  · exact rh_big 147 j (by omega)
theorem rh_148 : ∀ j, 3 ≤ j → gw_rh 148 j = none := fun j hj => by
  by_cases q : j < 42
  · exact (by decide +kernel : ∀ j, j < 42 → 3 ≤ j → gw_rh 148 j = none) j q hj
  · exact rh_big 148 j (by omega)
theorem rT_all (ρ : Rf) : rT 4 3 223 = rF ρ 0 223 := by
  funext a j
  unfold rF rT
  rw [if_neg (Nat.not_lt_zero _)]
  by_cases q : a = 147
  · rw [if_pos q, if_pos (show a < 223 by omega), q]
    by_cases q2 : j < 4
    · rw [if_pos q2]
    · rw [if_neg q2, rh_147 j (by omega)]
  · rw [if_neg q]
    by_cases q2 : a = 148
    · rw [if_pos q2, if_pos (show a < 223 by omega), q2]
      by_cases q3 : j < 3
      · rw [if_pos q3]
      · rw [if_neg q3, rh_148 j (by omega)]
    · rw [if_neg q2]
section GW
variable {X : Cx} {F : Fr} {G : Gl} {Z : State → Prop} {kc ks kc' ks' : Nat} {σ : Sg} {pc pc' : Nat} {ls : List (Option AV)} {st : List AV}
variable {n n' k i : Nat} {ad : Nat → Nat}
theorem g_newT {idx ci N : Nat} {C : String} {T : u_T} {ty : Nat → FieldType} (fx : gw_FX X F G) (d : gw_dc F.2.1 pc (.new idx) 3 pc') (hck : gw_ck ci C T N ty) (hcl : Cond.classLink F.1 idx C ∈ wsG) (hinst : Cond.instantiable C N ∈ wsG) (hini : Cond.initialized C ∈ wsG) (hdf : ∀ j, j < N → defaultValue (ty j) = if gw_ft ci j = 1 then Value.null else .int 0) (hsh : gw_sh n = (ci, N)) (hz : ∀ j, σ n j = 0) (ho : 149 ≤ n) (he : kc + 1 = kc' ∧ ks + N = ks') (hk : kc' ≤ F.2.2.2.2.2.1 ∧ ks' ≤ F.2.2.2.2.2.2)
    (kk : ∀ ad', adL n ad (n + 1) ad' → gw_W X F G Z kc' ks' (n + 1, ad', rT k i n) σ pc' ls (vR (some n) :: st)) : gw_W X F G Z kc ks (n, ad, rT k i n) σ pc ls st := by
  obtain ⟨rfl, rfl⟩ := he
  exact g_new fx d hck hcl hinst hini hdf hsh hz (rT_top ho n (Nat.le_refl _)) hk kk
theorem g_ctorT {idx na d' mc ms nL K : Nat} {y : MethodName} {cc : ByteArray} {as st0 : List AV} {σ' : Sg} (fx : gw_FX X F G) (d : gw_dc F.2.1 pc (.invokespecial idx) 3 pc') (hl : gw_mi F.1 idx y) (hm : gw_my y cc nL none na)
    (hs : ∀ (ad : Nat → Nat) (ρ : Rf), gw_Sp y cc nL none d' mc ms (vR (some n) :: as) (n + 1, ad, rM ρ n [] (n + 1)) σ (gw_Cn n K ρ σ') gw_no) (ho : 149 ≤ n) (hn' : n + K = n') (hst : st0 = as.reverse ++ vR (some n) :: st) (hn : as.length = na) (hw : gw_wt st ≤ 8) (hd : d' + 1 ≤ F.2.2.2.2.1) (he : kc + mc = kc' ∧ ks + ms = ks') (hk : kc' ≤ F.2.2.2.2.2.1 ∧ ks' ≤ F.2.2.2.2.2.2)
    (kk : ∀ ad', adL (n + 1) ad n' ad' → gw_W X F G Z kc' ks' (n', ad', rT k i n') σ' pc' ls st) : gw_W X F G Z kc ks (n + 1, ad, rT k i n) σ pc ls st0 := by
  obtain ⟨rfl, rfl⟩ := he
  refine g_ctor fx d hl hm (hs ad) (rT_top ho) hn' hst hn hw hd hk (fun ad' h => ?_)
  subst hn'
  rw [rT_out ho (by omega)]
  exact kk ad' h
theorem g_aastT {t : Nat} {z : Int} (fx : gw_FX X F G) (d : gw_dc F.2.1 pc .aastore 1 pc') (hn : 149 ≤ n) (htn : t < n) (hsh : gw_sh t = (9, 3)) (hz : 0 ≤ z ∧ z < 4) (hzk : z.toNat = k) (hrh : gw_rh 147 k = some t) (kk : gw_W X F G Z kc ks (n, ad, rT (k + 1) i n) σ pc' ls st) : gw_W X F G Z kc ks (n, ad, rT k i n) σ pc ls (vR (some t) :: vI z :: vR (some 147) :: st) := by
  refine g_aast (N := 4) fx d ⟨by show 147 < n; omega, by decide +kernel⟩ (Or.inr ⟨rfl, rfl, rfl⟩) ⟨htn, hsh⟩ hz.1 hz.2 ?_
  rw [hzk, rT_put7 hrh]
  exact kk
theorem g_aastM {t : Nat} {z : Int} (fx : gw_FX X F G) (d : gw_dc F.2.1 pc .aastore 1 pc') (hn : 149 ≤ n) (htn : t < n) (hsh : gw_sh t = (1, 16)) (hz : 0 ≤ z ∧ z < 3) (hzk : z.toNat = i) (hrh : gw_rh 148 i = some t) (kk : gw_W X F G Z kc ks (n, ad, rT k (i + 1) n) σ pc' ls st) : gw_W X F G Z kc ks (n, ad, rT k i n) σ pc ls (vR (some t) :: vI z :: vR (some 148) :: st) := by
  refine g_aast (N := 3) fx d ⟨by show 148 < n; omega, by decide +kernel⟩ (Or.inl ⟨rfl, rfl, rfl⟩) ⟨htn, hsh⟩ hz.1 hz.2 ?_
  rw [hzk, rT_put8 hrh]
  exact kk
end GW
set_option maxRecDepth 8000 in
set_option maxHeartbeats 4000000 in
theorem s_X10_init (ad : Nat → Nat) (σ : Sg) (ρ : Rf) (hσ : ∀ i, 0 ≤ i → ∀ j, σ i j = 0) : gw_Sp yX10_init cX10_init 2 none 6 222 8207 [vR (some 0)] (1, ad, rM ρ 0 [] 1) σ (gw_Cn 0 223 ρ (zAll σ)) gw_no := by
  refine gw_Sp.of [some (vR (some 0)), none] (by decide +kernel) rfl (Nat.le_of_ble_eq_true rfl) ?_
  intro X G fx het hnm
  refine g_aload_n fx dX10_init_0 rfl ?_
  refine g_objInit fx dX10_init_1 oi_RX10 oi_i oi_c (Nat.le_of_ble_eq_true rfl) (Nat.le_of_ble_eq_true rfl) ?_
  refine g_aload_n fx dX10_init_4 rfl ?_
  refine g_newN (n := 1) (kc' := 1) (ks' := 2) fx dX10_init_5 ck_7 cl_RX10_7 ii_7 ij_7 df_7 (by decide +kernel) (fun j => hσ _ (by omega) j) (by omega) ⟨rfl, rfl⟩ ⟨by decide, by decide⟩ (fun ad1 h1 => ?_)
  refine g_dup fx dX10_init_8 rfl ?_
  refine g_ctorN (n := 1) (n' := 3) (K := 2) (kc' := 2) (ks' := 902) (as := []) (σ' := σ) fx dX10_init_9 mi_RX10_9 my_X7_init (fun ad ρ => s_X7_init ad σ ρ (fun i hi j => hσ i (by omega) j)) (by omega) (rfl) rfl rfl (Nat.le_of_ble_eq_true rfl) (by decide) ⟨rfl, rfl⟩ ⟨by decide, by decide⟩ (fun ad2 h2 => ?_)
  refine g_putN fx hnm dX10_init_12 pf_RX10_10 (by omega) (by decide +kernel) (by decide +kernel) ?_
  refine g_aload_n fx dX10_init_15 rfl ?_
  refine g_newN (n := 3) (kc' := 3) (ks' := 910) fx dX10_init_16 ck_3 cl_RX10_16 ii_3 ij_3 df_3 (by decide +kernel) (fun j => hσ _ (by omega) j) (by omega) ⟨rfl, rfl⟩ ⟨by decide, by decide⟩ (fun ad3 h3 => ?_)
  refine g_dup fx dX10_init_19 rfl ?_
  refine g_aload_n fx dX10_init_20 rfl ?_
  refine g_getr fx dX10_init_21 fk_RX10_10 ⟨by show _ < _; omega, by decide +kernel⟩ (show rM ρ 0 [0] 4 0 0 = some 1 from rM_at (by decide) (by decide +kernel)) ?_
  refine g_ctorN (n := 3) (n' := 4) (K := 1) (kc' := 3) (ks' := 910) (as := [vR (some 1)]) (σ' := zA0 σ) fx dX10_init_24 mi_RX10_18 my_X3_init (fun ad ρ => s_X3_init ad σ ρ (fun i hi j => hσ i (by omega) j)) (by omega) (rfl) rfl rfl (Nat.le_of_ble_eq_true rfl) (by decide) ⟨rfl, rfl⟩ ⟨by decide, by decide⟩ (fun ad4 h4 => ?_)
  refine g_putN fx hnm dX10_init_27 pf_RX10_21 (by omega) (by decide +kernel) (by decide +kernel) ?_
  refine g_aload_n fx dX10_init_30 rfl ?_
  refine g_newN (n := 4) (kc' := 4) (ks' := 926) fx dX10_init_31 ck_1 cl_RX10_25 ii_1 ij_1 df_1 (by decide +kernel) (fun j => zA0_0 hσ _ (by omega) j) (by omega) ⟨rfl, rfl⟩ ⟨by decide, by decide⟩ (fun ad5 h5 => ?_)
  refine g_dup fx dX10_init_34 rfl ?_
  refine g_ctorN (n := 4) (n' := 26) (K := 22) (kc' := 25) (ks' := 1850) (as := []) (σ' := zA1 σ) fx dX10_init_35 mi_RX10_27 my_X1_init (fun ad ρ => s_X1_init ad (zA0 σ) ρ in_4 (fun i hi j => zA0_0 hσ i (by omega) j)) (by omega) (rfl) rfl rfl (Nat.le_of_ble_eq_true rfl) (by decide) ⟨rfl, rfl⟩ ⟨by decide, by decide⟩ (fun ad6 h6 => ?_)
  refine g_putN fx hnm dX10_init_38 pf_RX10_28 (by omega) (by decide +kernel) (by decide +kernel) ?_
  refine g_aload_n fx dX10_init_41 rfl ?_
  refine g_newN (n := 26) (kc' := 26) (ks' := 1865) fx dX10_init_42 ck_5 cl_RX10_32 ii_5 ij_5 df_5 (by decide +kernel) (fun j => zA1_0 hσ _ (by omega) j) (by omega) ⟨rfl, rfl⟩ ⟨by decide, by decide⟩ (fun ad7 h7 => ?_)
  refine g_dup fx dX10_init_45 rfl ?_
  refine g_aload_n fx dX10_init_46 rfl ?_
  refine g_getr fx dX10_init_47 fk_RX10_28 ⟨by show _ < _; omega, by decide +kernel⟩ (show rM ρ 0 [2, 1, 0] 27 0 2 = some 4 from rM_at (by decide) (by decide +kernel)) ?_
  refine g_ctorN (n := 26) (n' := 51) (K := 25) (kc' := 50) (ks' := 2431) (as := [vR (some 4)]) (σ' := zA1 σ) fx dX10_init_50 mi_RX10_34 my_X5_init (fun ad ρ => s_X5_init ad (zA1 σ) ρ in_26 (fun i hi j => zA1_0 hσ i (by omega) j)) (by omega) (rfl) rfl rfl (Nat.le_of_ble_eq_true rfl) (by decide) ⟨rfl, rfl⟩ ⟨by decide, by decide⟩ (fun ad8 h8 => ?_)
  refine g_putN fx hnm dX10_init_53 pf_RX10_37 (by omega) (by decide +kernel) (by decide +kernel) ?_
  refine g_aload_n fx dX10_init_56 rfl ?_
  refine g_newN (n := 51) (kc' := 51) (ks' := 2447) fx dX10_init_57 ck_1 cl_RX10_25 ii_1 ij_1 df_1 (by decide +kernel) (fun j => zA1_0 hσ _ (by omega) j) (by omega) ⟨rfl, rfl⟩ ⟨by decide, by decide⟩ (fun ad9 h9 => ?_)
  refine g_dup fx dX10_init_60 rfl ?_
  refine g_ctorN (n := 51) (n' := 73) (K := 22) (kc' := 72) (ks' := 3371) (as := []) (σ' := zA2 σ) fx dX10_init_61 mi_RX10_27 my_X1_init (fun ad ρ => s_X1_init ad (zA1 σ) ρ in_51 (fun i hi j => zA1_0 hσ i (by omega) j)) (by omega) (rfl) rfl rfl (Nat.le_of_ble_eq_true rfl) (by decide) ⟨rfl, rfl⟩ ⟨by decide, by decide⟩ (fun ad10 h10 => ?_)
  refine g_putN fx hnm dX10_init_64 pf_RX10_41 (by omega) (by decide +kernel) (by decide +kernel) ?_
  refine g_aload_n fx dX10_init_67 rfl ?_
  refine g_newN (n := 73) (kc' := 73) (ks' := 3373) fx dX10_init_68 ck_8 cl_RX10_44 ii_8 ij_8 df_8 (by decide +kernel) (fun j => zA2_0 hσ _ (by omega) j) (by omega) ⟨rfl, rfl⟩ ⟨by decide, by decide⟩ (fun ad11 h11 => ?_)
  refine g_dup fx dX10_init_71 rfl ?_
  refine g_aload_n fx dX10_init_72 rfl ?_
  refine g_getr fx dX10_init_73 fk_RX10_21 ⟨by show _ < _; omega, by decide +kernel⟩ (show rM ρ 0 [4, 3, 2, 1, 0] 74 0 1 = some 3 from rM_at (by decide) (by decide +kernel)) ?_
  refine g_aload_n fx dX10_init_76 rfl ?_
  refine g_getr fx dX10_init_77 fk_RX10_41 ⟨by show _ < _; omega, by decide +kernel⟩ (show rM ρ 0 [4, 3, 2, 1, 0] 74 0 4 = some 51 from rM_at (by decide) (by decide +kernel)) ?_
  refine g_ctorN (n := 73) (n' := 74) (K := 1) (kc' := 73) (ks' := 3373) (as := [vR (some 3), vR (some 51)]) (σ' := zA2 σ) fx dX10_init_80 mi_RX10_46 my_X8_init (fun ad ρ => s_X8_init ad (zA2 σ) ρ (fun i hi j => zA2_0 hσ i (by omega) j)) (by omega) (rfl) rfl rfl (Nat.le_of_ble_eq_true rfl) (by decide) ⟨rfl, rfl⟩ ⟨by decide, by decide⟩ (fun ad12 h12 => ?_)
  refine g_putN fx hnm dX10_init_83 pf_RX10_49 (by omega) (by decide +kernel) (by decide +kernel) ?_
  refine g_aload_n fx dX10_init_86 rfl ?_
  refine g_newN (n := 74) (kc' := 74) (ks' := 3389) fx dX10_init_87 ck_1 cl_RX10_25 ii_1 ij_1 df_1 (by decide +kernel) (fun j => zA2_0 hσ _ (by omega) j) (by omega) ⟨rfl, rfl⟩ ⟨by decide, by decide⟩ (fun ad13 h13 => ?_)
  refine g_dup fx dX10_init_90 rfl ?_
  refine g_ctorN (n := 74) (n' := 96) (K := 22) (kc' := 95) (ks' := 4313) (as := []) (σ' := zA3 σ) fx dX10_init_91 mi_RX10_27 my_X1_init (fun ad ρ => s_X1_init ad (zA2 σ) ρ in_74 (fun i hi j => zA2_0 hσ i (by omega) j)) (by omega) (rfl) rfl rfl (Nat.le_of_ble_eq_true rfl) (by decide) ⟨rfl, rfl⟩ ⟨by decide, by decide⟩ (fun ad14 h14 => ?_)
  refine g_putN fx hnm dX10_init_94 pf_RX10_53 (by omega) (by decide +kernel) (by decide +kernel) ?_
  refine g_aload_n fx dX10_init_97 rfl ?_
  refine g_newN (n := 96) (kc' := 96) (ks' := 4328) fx dX10_init_98 ck_5 cl_RX10_32 ii_5 ij_5 df_5 (by decide +kernel) (fun j => zA3_0 hσ _ (by omega) j) (by omega) ⟨rfl, rfl⟩ ⟨by decide, by decide⟩ (fun ad15 h15 => ?_)
  refine g_dup fx dX10_init_101 rfl ?_
  refine g_aload_n fx dX10_init_102 rfl ?_
  refine g_getr fx dX10_init_103 fk_RX10_53 ⟨by show _ < _; omega, by decide +kernel⟩ (show rM ρ 0 [6, 5, 4, 3, 2, 1, 0] 97 0 6 = some 74 from rM_at (by decide) (by decide +kernel)) ?_
  refine g_ctorN (n := 96) (n' := 121) (K := 25) (kc' := 120) (ks' := 4894) (as := [vR (some 74)]) (σ' := zA3 σ) fx dX10_init_106 mi_RX10_34 my_X5_init (fun ad ρ => s_X5_init ad (zA3 σ) ρ in_96 (fun i hi j => zA3_0 hσ i (by omega) j)) (by omega) (rfl) rfl rfl (Nat.le_of_ble_eq_true rfl) (by decide) ⟨rfl, rfl⟩ ⟨by decide, by decide⟩ (fun ad16 h16 => ?_)
  refine g_putN fx hnm dX10_init_109 pf_RX10_56 (by omega) (by decide +kernel) (by decide +kernel) ?_
  refine g_aload_n fx dX10_init_112 rfl ?_
  refine g_newN (n := 121) (kc' := 121) (ks' := 4902) fx dX10_init_113 ck_2 cl_RX10_59 ii_2 ij_2 df_2 (by decide +kernel) (fun j => zA3_0 hσ _ (by omega) j) (by omega) ⟨rfl, rfl⟩ ⟨by decide, by decide⟩ (fun ad17 h17 => ?_)
  refine g_dup fx dX10_init_116 rfl ?_
  refine g_aload_n fx dX10_init_117 rfl ?_
  refine g_getr fx dX10_init_118 fk_RX10_53 ⟨by show _ < _; omega, by decide +kernel⟩ (show rM ρ 0 [7, 6, 5, 4, 3, 2, 1, 0] 122 0 6 = some 74 from rM_at (by decide) (by decide +kernel)) ?_
  refine g_aload_n fx dX10_init_121 rfl ?_
  refine g_getr fx dX10_init_122 fk_RX10_56 ⟨by show _ < _; omega, by decide +kernel⟩ (show rM ρ 0 [7, 6, 5, 4, 3, 2, 1, 0] 122 0 7 = some 96 from rM_at (by decide) (by decide +kernel)) ?_
  refine g_ctorN (n := 121) (n' := 128) (K := 7) (kc' := 127) (ks' := 4930) (as := [vR (some 74), vR (some 96)]) (σ' := zA3 σ) fx dX10_init_125 mi_RX10_61 my_X2_init (fun ad ρ => s_X2_init ad (zA3 σ) ρ (fun i hi j => zA3_0 hσ i (by omega) j)) (by omega) (rfl) rfl rfl (Nat.le_of_ble_eq_true rfl) (by decide) ⟨rfl, rfl⟩ ⟨by decide, by decide⟩ (fun ad18 h18 => ?_)
  refine g_putN fx hnm dX10_init_128 pf_RX10_64 (by omega) (by decide +kernel) (by decide +kernel) ?_
  refine g_aload_n fx dX10_init_131 rfl ?_
  refine g_newN (n := 128) (kc' := 128) (ks' := 4940) fx dX10_init_132 ck_6 cl_RX10_68 ii_6 ij_6 df_6 (by decide +kernel) (fun j => zA3_0 hσ _ (by omega) j) (by omega) ⟨rfl, rfl⟩ ⟨by decide, by decide⟩ (fun ad19 h19 => ?_)
  refine g_dup fx dX10_init_135 rfl ?_
  refine g_aload_n fx dX10_init_136 rfl ?_
  refine g_getr fx dX10_init_137 fk_RX10_28 ⟨by show _ < _; omega, by decide +kernel⟩ (show rM ρ 0 [8, 7, 6, 5, 4, 3, 2, 1, 0] 129 0 2 = some 4 from rM_at (by decide) (by decide +kernel)) ?_
  refine g_aload_n fx dX10_init_140 rfl ?_
  refine g_getr fx dX10_init_141 fk_RX10_37 ⟨by show _ < _; omega, by decide +kernel⟩ (show rM ρ 0 [8, 7, 6, 5, 4, 3, 2, 1, 0] 129 0 3 = some 26 from rM_at (by decide) (by decide +kernel)) ?_
  refine g_ctorN (n := 128) (n' := 143) (K := 15) (kc' := 142) (ks' := 5006) (as := [vR (some 4), vR (some 26)]) (σ' := zA3 σ) fx dX10_init_144 mi_RX10_70 my_X6_init (fun ad ρ => s_X6_init ad (zA3 σ) ρ (fun i hi j => zA3_0 hσ i (by omega) j)) (by omega) (rfl) rfl rfl (Nat.le_of_ble_eq_true rfl) (by decide) ⟨rfl, rfl⟩ ⟨by decide, by decide⟩ (fun ad20 h20 => ?_)
  refine g_putN fx hnm dX10_init_147 pf_RX10_71 (by omega) (by decide +kernel) (by decide +kernel) ?_
  refine g_aload_n fx dX10_init_150 rfl ?_
  refine g_newN (n := 143) (kc' := 143) (ks' := 5007) fx dX10_init_151 ck_4 cl_RX10_75 ii_4 ij_4 df_4 (by decide +kernel) (fun j => zA3_0 hσ _ (by omega) j) (by omega) ⟨rfl, rfl⟩ ⟨by decide, by decide⟩ (fun ad21 h21 => ?_)
  refine g_dup fx dX10_init_154 rfl ?_
  refine g_bipush fx dX10_init_155 (by decide) ?_
  refine g_ctorN (n := 143) (n' := 145) (K := 2) (kc' := 144) (ks' := 5067) (as := [vI 60]) (σ' := zA3 σ) fx dX10_init_157 mi_RX10_77 my_X4_init (fun ad ρ => s_X4_init ad (zA3 σ) ρ in_143 (fun i hi j => zA3_0 hσ i (by omega) j)) (by omega) (rfl) rfl rfl (Nat.le_of_ble_eq_true rfl) (by decide) ⟨rfl, rfl⟩ ⟨by decide, by decide⟩ (fun ad22 h22 => ?_)
  refine g_putN fx hnm dX10_init_160 pf_RX10_80 (by omega) (by decide +kernel) (by decide +kernel) ?_
  refine g_aload_n fx dX10_init_163 rfl ?_
  refine g_newN (n := 145) (kc' := 145) (ks' := 5068) fx dX10_init_164 ck_4 cl_RX10_75 ii_4 ij_4 df_4 (by decide +kernel) (fun j => zA3_0 hσ _ (by omega) j) (by omega) ⟨rfl, rfl⟩ ⟨by decide, by decide⟩ (fun ad23 h23 => ?_)
  refine g_dup fx dX10_init_167 rfl ?_
  refine g_bipush fx dX10_init_168 (by decide) ?_
  refine g_ctorN (n := 145) (n' := 147) (K := 2) (kc' := 146) (ks' := 5128) (as := [vI 60]) (σ' := zA3 σ) fx dX10_init_170 mi_RX10_77 my_X4_init (fun ad ρ => s_X4_init ad (zA3 σ) ρ in_145 (fun i hi j => zA3_0 hσ i (by omega) j)) (by omega) (rfl) rfl rfl (Nat.le_of_ble_eq_true rfl) (by decide) ⟨rfl, rfl⟩ ⟨by decide, by decide⟩ (fun ad24 h24 => ?_)
  refine g_putN fx hnm dX10_init_173 pf_RX10_84 (by omega) (by decide +kernel) (by decide +kernel) ?_
  refine g_aload_n fx dX10_init_176 rfl ?_
  refine g_iconst fx dX10_init_177 (by unfold okI; omega) ?_
  refine g_newQ (n := 147) (L := 4) fx dX10_init_178 (Or.inr ⟨rfl, rfl⟩) cl_RX10_87 (by decide +kernel) rfl (by decide) (fun j => zA3_0 hσ _ (by decide) j) (rM_top (by decide) _ (by decide)) ⟨by decide, by decide⟩ (fun ad25 h25 => ?_)
  refine g_putr fx hnm dX10_init_181 pf_RX10_89 ⟨by show _ < _; omega, by decide +kernel⟩ ?_
  rw [rM_put (show gw_rh 0 12 = some 147 by decide +kernel)]
  refine g_aload_n fx dX10_init_184 rfl ?_
  refine g_iconst fx dX10_init_185 (by unfold okI; omega) ?_
  refine g_newQ (n := 148) (L := 3) fx dX10_init_186 (Or.inl ⟨rfl, rfl⟩) cl_RX10_25 (by decide +kernel) rfl (by decide) (fun j => zA3_0 hσ _ (by decide) j) (rM_top (by decide) _ (by decide)) ⟨by decide, by decide⟩ (fun ad26 h26 => ?_)
  refine g_putr fx hnm dX10_init_189 pf_RX10_93 ⟨by show _ < _; omega, by decide +kernel⟩ ?_
  rw [rM_put (show gw_rh 0 13 = some 148 by decide +kernel), rM_all (ρ := ρ) (o := 0) (n := 147) (L := [13, 12, 11, 10, 9, 8, 7, 6, 5, 4, 3, 2, 1, 0]) (by decide) (by decide +kernel), rT_0]
  refine g_iconst fx dX10_init_192 (by unfold okI; omega) ?_
  refine g_istore_n fx dX10_init_193 (by decide) rfl rfl ?_
  refine g_iload_n fx dX10_init_194 rfl ?_
  refine g_aload_n fx dX10_init_195 rfl ?_
  refine g_getr fx dX10_init_196 fk_RX10_89 ⟨by show _ < _; omega, by decide +kernel⟩ (show rT 0 0 149 0 12 = some 147 by decide +kernel) ?_
  refine g_alen (N := 4) (ty := 25) fx dX10_init_199 ⟨by show _ < _; omega, by decide +kernel⟩ (by decide) (by decide) ?_
  refine g_icmp_ge (tgt := 222) fx dX10_init_200 (by decide) (fun hz0 => absurd hz0 (by decide)) (fun _ => ?_)
  refine g_aload_n fx dX10_init_203 rfl ?_
  refine g_getr fx dX10_init_204 fk_RX10_89 ⟨by show _ < _; omega, by decide +kernel⟩ (show rT 0 0 149 0 12 = some 147 by decide +kernel) ?_
  refine g_iload_n fx dX10_init_207 rfl ?_
  refine g_newT (n := 149) (kc' := 149) (ks' := 5138) fx dX10_init_208 ck_9 cl_RX10_87 ii_9 ij_9 df_9 (by decide +kernel) (fun j => zA3_0 hσ _ (by decide) j) (by decide) ⟨rfl, rfl⟩ ⟨by decide, by decide⟩ (fun ad27 h27 => ?_)
  refine g_dup fx dX10_init_211 rfl ?_
  refine g_ctorT (n := 149) (n' := 151) (K := 2) (kc' := 150) (ks' := 5198) (as := []) (σ' := zA4 σ) fx dX10_init_212 mi_RX10_97 my_X9_init (fun ad ρ => s_X9_init ad (zA3 σ) ρ in_149 (fun i hi j => zA3_0 hσ i (by omega) j)) (by decide) (rfl) rfl rfl (Nat.le_of_ble_eq_true rfl) (by decide) ⟨rfl, rfl⟩ ⟨by decide, by decide⟩ (fun ad28 h28 => ?_)
  refine g_aastT fx dX10_init_215 (by decide) (by decide) (by decide +kernel) (by decide) (by decide) (by decide +kernel) ?_
  refine g_iinc1 fx dX10_init_216 (by decide) rfl rfl (by unfold okI; omega) rfl ?_
  refine g_goto (tgt := 194) fx dX10_init_219 (by decide) ?_
  refine g_iload_n fx dX10_init_194 rfl ?_
  refine g_aload_n fx dX10_init_195 rfl ?_
  refine g_getr fx dX10_init_196 fk_RX10_89 ⟨by show _ < _; omega, by decide +kernel⟩ (show rT 1 0 151 0 12 = some 147 by decide +kernel) ?_
  refine g_alen (N := 4) (ty := 25) fx dX10_init_199 ⟨by show _ < _; omega, by decide +kernel⟩ (by decide) (by decide) ?_
  refine g_icmp_ge (tgt := 222) fx dX10_init_200 (by decide) (fun hz0 => absurd hz0 (by decide)) (fun _ => ?_)
  refine g_aload_n fx dX10_init_203 rfl ?_
  refine g_getr fx dX10_init_204 fk_RX10_89 ⟨by show _ < _; omega, by decide +kernel⟩ (show rT 1 0 151 0 12 = some 147 by decide +kernel) ?_
  refine g_iload_n fx dX10_init_207 rfl ?_
  refine g_newT (n := 151) (kc' := 151) (ks' := 5201) fx dX10_init_208 ck_9 cl_RX10_87 ii_9 ij_9 df_9 (by decide +kernel) (fun j => zA4_0 hσ _ (by decide) j) (by decide) ⟨rfl, rfl⟩ ⟨by decide, by decide⟩ (fun ad29 h29 => ?_)
  refine g_dup fx dX10_init_211 rfl ?_
  refine g_ctorT (n := 151) (n' := 153) (K := 2) (kc' := 152) (ks' := 5261) (as := []) (σ' := zA5 σ) fx dX10_init_212 mi_RX10_97 my_X9_init (fun ad ρ => s_X9_init ad (zA4 σ) ρ in_151 (fun i hi j => zA4_0 hσ i (by omega) j)) (by decide) (rfl) rfl rfl (Nat.le_of_ble_eq_true rfl) (by decide) ⟨rfl, rfl⟩ ⟨by decide, by decide⟩ (fun ad30 h30 => ?_)
  refine g_aastT fx dX10_init_215 (by decide) (by decide) (by decide +kernel) (by decide) (by decide) (by decide +kernel) ?_
  refine g_iinc1 fx dX10_init_216 (by decide) rfl rfl (by unfold okI; omega) rfl ?_
  refine g_goto (tgt := 194) fx dX10_init_219 (by decide) ?_
  refine g_iload_n fx dX10_init_194 rfl ?_
  refine g_aload_n fx dX10_init_195 rfl ?_
  refine g_getr fx dX10_init_196 fk_RX10_89 ⟨by show _ < _; omega, by decide +kernel⟩ (show rT 2 0 153 0 12 = some 147 by decide +kernel) ?_
  refine g_alen (N := 4) (ty := 25) fx dX10_init_199 ⟨by show _ < _; omega, by decide +kernel⟩ (by decide) (by decide) ?_
  refine g_icmp_ge (tgt := 222) fx dX10_init_200 (by decide) (fun hz0 => absurd hz0 (by decide)) (fun _ => ?_)
  refine g_aload_n fx dX10_init_203 rfl ?_
  refine g_getr fx dX10_init_204 fk_RX10_89 ⟨by show _ < _; omega, by decide +kernel⟩ (show rT 2 0 153 0 12 = some 147 by decide +kernel) ?_
  refine g_iload_n fx dX10_init_207 rfl ?_
  refine g_newT (n := 153) (kc' := 153) (ks' := 5264) fx dX10_init_208 ck_9 cl_RX10_87 ii_9 ij_9 df_9 (by decide +kernel) (fun j => zA5_0 hσ _ (by decide) j) (by decide) ⟨rfl, rfl⟩ ⟨by decide, by decide⟩ (fun ad31 h31 => ?_)
  refine g_dup fx dX10_init_211 rfl ?_
  refine g_ctorT (n := 153) (n' := 155) (K := 2) (kc' := 154) (ks' := 5324) (as := []) (σ' := zA6 σ) fx dX10_init_212 mi_RX10_97 my_X9_init (fun ad ρ => s_X9_init ad (zA5 σ) ρ in_153 (fun i hi j => zA5_0 hσ i (by omega) j)) (by decide) (rfl) rfl rfl (Nat.le_of_ble_eq_true rfl) (by decide) ⟨rfl, rfl⟩ ⟨by decide, by decide⟩ (fun ad32 h32 => ?_)
  refine g_aastT fx dX10_init_215 (by decide) (by decide) (by decide +kernel) (by decide) (by decide) (by decide +kernel) ?_
  refine g_iinc1 fx dX10_init_216 (by decide) rfl rfl (by unfold okI; omega) rfl ?_
  refine g_goto (tgt := 194) fx dX10_init_219 (by decide) ?_
  refine g_iload_n fx dX10_init_194 rfl ?_
  refine g_aload_n fx dX10_init_195 rfl ?_
  refine g_getr fx dX10_init_196 fk_RX10_89 ⟨by show _ < _; omega, by decide +kernel⟩ (show rT 3 0 155 0 12 = some 147 by decide +kernel) ?_
  refine g_alen (N := 4) (ty := 25) fx dX10_init_199 ⟨by show _ < _; omega, by decide +kernel⟩ (by decide) (by decide) ?_
  refine g_icmp_ge (tgt := 222) fx dX10_init_200 (by decide) (fun hz0 => absurd hz0 (by decide)) (fun _ => ?_)
  refine g_aload_n fx dX10_init_203 rfl ?_
  refine g_getr fx dX10_init_204 fk_RX10_89 ⟨by show _ < _; omega, by decide +kernel⟩ (show rT 3 0 155 0 12 = some 147 by decide +kernel) ?_
  refine g_iload_n fx dX10_init_207 rfl ?_
  refine g_newT (n := 155) (kc' := 155) (ks' := 5327) fx dX10_init_208 ck_9 cl_RX10_87 ii_9 ij_9 df_9 (by decide +kernel) (fun j => zA6_0 hσ _ (by decide) j) (by decide) ⟨rfl, rfl⟩ ⟨by decide, by decide⟩ (fun ad33 h33 => ?_)
  refine g_dup fx dX10_init_211 rfl ?_
  refine g_ctorT (n := 155) (n' := 157) (K := 2) (kc' := 156) (ks' := 5387) (as := []) (σ' := zA7 σ) fx dX10_init_212 mi_RX10_97 my_X9_init (fun ad ρ => s_X9_init ad (zA6 σ) ρ in_155 (fun i hi j => zA6_0 hσ i (by omega) j)) (by decide) (rfl) rfl rfl (Nat.le_of_ble_eq_true rfl) (by decide) ⟨rfl, rfl⟩ ⟨by decide, by decide⟩ (fun ad34 h34 => ?_)
  refine g_aastT fx dX10_init_215 (by decide) (by decide) (by decide +kernel) (by decide) (by decide) (by decide +kernel) ?_
  refine g_iinc1 fx dX10_init_216 (by decide) rfl rfl (by unfold okI; omega) rfl ?_
  refine g_goto (tgt := 194) fx dX10_init_219 (by decide) ?_
  refine g_iload_n fx dX10_init_194 rfl ?_
  refine g_aload_n fx dX10_init_195 rfl ?_
  refine g_getr fx dX10_init_196 fk_RX10_89 ⟨by show _ < _; omega, by decide +kernel⟩ (show rT 4 0 157 0 12 = some 147 by decide +kernel) ?_
  refine g_alen (N := 4) (ty := 25) fx dX10_init_199 ⟨by show _ < _; omega, by decide +kernel⟩ (by decide) (by decide) ?_
  refine g_icmp_ge (tgt := 222) fx dX10_init_200 (by decide) (fun _ => ?_) (fun hz0 => absurd hz0 (by decide))
  refine g_iconst fx dX10_init_222 (by unfold okI; omega) ?_
  refine g_istore_n fx dX10_init_223 (by decide) rfl rfl ?_
  refine g_iload_n fx dX10_init_224 rfl ?_
  refine g_aload_n fx dX10_init_225 rfl ?_
  refine g_getr fx dX10_init_226 fk_RX10_93 ⟨by show _ < _; omega, by decide +kernel⟩ (show rT 4 0 157 0 13 = some 148 by decide +kernel) ?_
  refine g_alen (N := 3) (ty := 24) fx dX10_init_229 ⟨by show _ < _; omega, by decide +kernel⟩ (by decide) (by decide) ?_
  refine g_icmp_ge (tgt := 252) fx dX10_init_230 (by decide) (fun hz0 => absurd hz0 (by decide)) (fun _ => ?_)
  refine g_aload_n fx dX10_init_233 rfl ?_
  refine g_getr fx dX10_init_234 fk_RX10_93 ⟨by show _ < _; omega, by decide +kernel⟩ (show rT 4 0 157 0 13 = some 148 by decide +kernel) ?_
  refine g_iload_n fx dX10_init_237 rfl ?_
  refine g_newT (n := 157) (kc' := 157) (ks' := 5403) fx dX10_init_238 ck_1 cl_RX10_25 ii_1 ij_1 df_1 (by decide +kernel) (fun j => zA7_0 hσ _ (by decide) j) (by decide) ⟨rfl, rfl⟩ ⟨by decide, by decide⟩ (fun ad35 h35 => ?_)
  refine g_dup fx dX10_init_241 rfl ?_
  refine g_ctorT (n := 157) (n' := 179) (K := 22) (kc' := 178) (ks' := 6327) (as := []) (σ' := zA8 σ) fx dX10_init_242 mi_RX10_27 my_X1_init (fun ad ρ => s_X1_init ad (zA7 σ) ρ in_157 (fun i hi j => zA7_0 hσ i (by omega) j)) (by decide) (rfl) rfl rfl (Nat.le_of_ble_eq_true rfl) (by decide) ⟨rfl, rfl⟩ ⟨by decide, by decide⟩ (fun ad36 h36 => ?_)
  refine g_aastM fx dX10_init_245 (by decide) (by decide) (by decide +kernel) (by decide) (by decide) (by decide +kernel) ?_
  refine g_iinc1 fx dX10_init_246 (by decide) rfl rfl (by unfold okI; omega) rfl ?_
  refine g_goto (tgt := 224) fx dX10_init_249 (by decide) ?_
  refine g_iload_n fx dX10_init_224 rfl ?_
  refine g_aload_n fx dX10_init_225 rfl ?_
  refine g_getr fx dX10_init_226 fk_RX10_93 ⟨by show _ < _; omega, by decide +kernel⟩ (show rT 4 1 179 0 13 = some 148 by decide +kernel) ?_
  refine g_alen (N := 3) (ty := 24) fx dX10_init_229 ⟨by show _ < _; omega, by decide +kernel⟩ (by decide) (by decide) ?_
  refine g_icmp_ge (tgt := 252) fx dX10_init_230 (by decide) (fun hz0 => absurd hz0 (by decide)) (fun _ => ?_)
  refine g_aload_n fx dX10_init_233 rfl ?_
  refine g_getr fx dX10_init_234 fk_RX10_93 ⟨by show _ < _; omega, by decide +kernel⟩ (show rT 4 1 179 0 13 = some 148 by decide +kernel) ?_
  refine g_iload_n fx dX10_init_237 rfl ?_
  refine g_newT (n := 179) (kc' := 179) (ks' := 6343) fx dX10_init_238 ck_1 cl_RX10_25 ii_1 ij_1 df_1 (by decide +kernel) (fun j => zA8_0 hσ _ (by decide) j) (by decide) ⟨rfl, rfl⟩ ⟨by decide, by decide⟩ (fun ad37 h37 => ?_)
  refine g_dup fx dX10_init_241 rfl ?_
  refine g_ctorT (n := 179) (n' := 201) (K := 22) (kc' := 200) (ks' := 7267) (as := []) (σ' := zA9 σ) fx dX10_init_242 mi_RX10_27 my_X1_init (fun ad ρ => s_X1_init ad (zA8 σ) ρ in_179 (fun i hi j => zA8_0 hσ i (by omega) j)) (by decide) (rfl) rfl rfl (Nat.le_of_ble_eq_true rfl) (by decide) ⟨rfl, rfl⟩ ⟨by decide, by decide⟩ (fun ad38 h38 => ?_)
  refine g_aastM fx dX10_init_245 (by decide) (by decide) (by decide +kernel) (by decide) (by decide) (by decide +kernel) ?_
  refine g_iinc1 fx dX10_init_246 (by decide) rfl rfl (by unfold okI; omega) rfl ?_
  refine g_goto (tgt := 224) fx dX10_init_249 (by decide) ?_
  refine g_iload_n fx dX10_init_224 rfl ?_
  refine g_aload_n fx dX10_init_225 rfl ?_
  refine g_getr fx dX10_init_226 fk_RX10_93 ⟨by show _ < _; omega, by decide +kernel⟩ (show rT 4 2 201 0 13 = some 148 by decide +kernel) ?_
  refine g_alen (N := 3) (ty := 24) fx dX10_init_229 ⟨by show _ < _; omega, by decide +kernel⟩ (by decide) (by decide) ?_
  refine g_icmp_ge (tgt := 252) fx dX10_init_230 (by decide) (fun hz0 => absurd hz0 (by decide)) (fun _ => ?_)
  refine g_aload_n fx dX10_init_233 rfl ?_
  refine g_getr fx dX10_init_234 fk_RX10_93 ⟨by show _ < _; omega, by decide +kernel⟩ (show rT 4 2 201 0 13 = some 148 by decide +kernel) ?_
  refine g_iload_n fx dX10_init_237 rfl ?_
  refine g_newT (n := 201) (kc' := 201) (ks' := 7283) fx dX10_init_238 ck_1 cl_RX10_25 ii_1 ij_1 df_1 (by decide +kernel) (fun j => zA9_0 hσ _ (by decide) j) (by decide) ⟨rfl, rfl⟩ ⟨by decide, by decide⟩ (fun ad39 h39 => ?_)
  refine g_dup fx dX10_init_241 rfl ?_
  refine g_ctorT (n := 201) (n' := 223) (K := 22) (kc' := 222) (ks' := 8207) (as := []) (σ' := zA10 σ) fx dX10_init_242 mi_RX10_27 my_X1_init (fun ad ρ => s_X1_init ad (zA9 σ) ρ in_201 (fun i hi j => zA9_0 hσ i (by omega) j)) (by decide) (rfl) rfl rfl (Nat.le_of_ble_eq_true rfl) (by decide) ⟨rfl, rfl⟩ ⟨by decide, by decide⟩ (fun ad40 h40 => ?_)
  refine g_aastM fx dX10_init_245 (by decide) (by decide) (by decide +kernel) (by decide) (by decide) (by decide +kernel) ?_
  refine g_iinc1 fx dX10_init_246 (by decide) rfl rfl (by unfold okI; omega) rfl ?_
  refine g_goto (tgt := 224) fx dX10_init_249 (by decide) ?_
  refine g_iload_n fx dX10_init_224 rfl ?_
  refine g_aload_n fx dX10_init_225 rfl ?_
  refine g_getr fx dX10_init_226 fk_RX10_93 ⟨by show _ < _; omega, by decide +kernel⟩ (show rT 4 3 223 0 13 = some 148 by decide +kernel) ?_
  refine g_alen (N := 3) (ty := 24) fx dX10_init_229 ⟨by show _ < _; omega, by decide +kernel⟩ (by decide) (by decide) ?_
  refine g_icmp_ge (tgt := 252) fx dX10_init_230 (by decide) (fun _ => ?_) (fun hz0 => absurd hz0 (by decide))
  refine g_aload_n fx dX10_init_252 rfl ?_
  refine g_getr fx dX10_init_253 fk_RX10_28 ⟨by show _ < _; omega, by decide +kernel⟩ (show rT 4 3 223 0 2 = some 4 by decide +kernel) ?_
  refine g_callVD0 (ci := 1) (N := 16) fx dX10_init_256 mv_RX10_98 my_X1_standAtLeastOneStone (s_X1_standP _ _ ⟨by show _ < _; omega, by decide +kernel⟩ (show rT 4 3 223 4 7 = some 8 by decide +kernel) ⟨by show _ < _; omega, by decide +kernel⟩ (show rT 4 3 223 8 0 = some 9 by decide +kernel) ⟨by show _ < _; omega, by decide +kernel⟩) ⟨by show _ < _; omega, by decide +kernel⟩ rfl rfl rfl (Nat.le_of_ble_eq_true rfl) (by decide) ⟨by decide, by decide⟩ ?_
  exact g_vret fx rfl dX10_init_259 (by decide) (by decide) ((((((((((((((((((((((((((((((((((((((((((adL.rf _ _).trans h1).trans h2).trans h3).trans h4).trans h5).trans h6).trans h7).trans h8).trans h9).trans h10).trans h11).trans h12).trans h13).trans h14).trans h15).trans h16).trans h17).trans h18).trans h19).trans h20).trans h21).trans h22).trans h23).trans h24).trans h25).trans h26).trans h27).trans h28).trans h29).trans h30).trans h31).trans h32).trans h33).trans h34).trans h35).trans h36).trans h37).trans h38).trans h39).trans h40).le _ _) ⟨rfl, ⟨_, by rw [rT_all ρ]⟩, rfl⟩
