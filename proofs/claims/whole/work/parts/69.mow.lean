theorem dX11_stands_22 : gw_dc cX11_stands 22 (.putfield 88) 3 25 := ⟨by decide +kernel, rfl⟩
theorem dX11_stands_25 : gw_dc cX11_stands 25 (.aload_n 0) 1 26 := ⟨by decide +kernel, rfl⟩
theorem dX11_stands_26 : gw_dc cX11_stands 26 (.getfield 88) 3 29 := ⟨by decide +kernel, rfl⟩
theorem dX11_stands_29 : gw_dc cX11_stands 29 (.ifCond .le 5) 3 32 := ⟨by decide +kernel, rfl⟩
theorem dX11_stands_34 : gw_dc cX11_stands 34 (.aload_n 0) 1 35 := ⟨by decide +kernel, rfl⟩
theorem dX11_stands_35 : gw_dc cX11_stands 35 (.invokevirtual 323) 3 38 := ⟨by decide +kernel, rfl⟩
theorem dX11_stands_38 : gw_dc cX11_stands 38 (.iconst 0) 1 39 := ⟨by decide +kernel, rfl⟩
theorem dX11_stands_39 : gw_dc cX11_stands 39 (.istore_n 3) 1 40 := ⟨by decide +kernel, rfl⟩
theorem dX11_stands_40 : gw_dc cX11_stands 40 (.iconst 0) 1 41 := ⟨by decide +kernel, rfl⟩
theorem dX11_stands_41 : gw_dc cX11_stands 41 (.istore 4) 2 43 := ⟨by decide +kernel, rfl⟩
theorem dX11_stands_43 : gw_dc cX11_stands 43 (.iconst 0) 1 44 := ⟨by decide +kernel, rfl⟩
theorem dX11_stands_44 : gw_dc cX11_stands 44 (.istore 5) 2 46 := ⟨by decide +kernel, rfl⟩
theorem dX11_stands_46 : gw_dc cX11_stands 46 (.iconst 0) 1 47 := ⟨by decide +kernel, rfl⟩
theorem dX11_stands_47 : gw_dc cX11_stands 47 (.istore 6) 2 49 := ⟨by decide +kernel, rfl⟩
theorem dX11_stands_49 : gw_dc cX11_stands 49 (.iload 6) 2 51 := ⟨by decide +kernel, rfl⟩
theorem dX11_stands_51 : gw_dc cX11_stands 51 (.aload_n 0) 1 52 := ⟨by decide +kernel, rfl⟩
theorem dX11_stands_52 : gw_dc cX11_stands 52 (.getfield 9) 3 55 := ⟨by decide +kernel, rfl⟩
theorem dX11_stands_55 : gw_dc cX11_stands 55 (.sipush 668) 3 58 := ⟨by decide +kernel, rfl⟩
theorem dX11_stands_58 : gw_dc cX11_stands 58 (.iaload) 1 59 := ⟨by decide +kernel, rfl⟩
theorem dX11_stands_59 : gw_dc cX11_stands 59 (.if_icmp .ge 108) 3 62 := ⟨by decide +kernel, rfl⟩
theorem dX11_stands_167 : gw_dc cX11_stands 167 (.iconst 0) 1 168 := ⟨by decide +kernel, rfl⟩
theorem dX11_stands_168 : gw_dc cX11_stands 168 (.istore 6) 2 170 := ⟨by decide +kernel, rfl⟩
theorem dX11_stands_170 : gw_dc cX11_stands 170 (.iconst 0) 1 171 := ⟨by decide +kernel, rfl⟩
theorem dX11_stands_171 : gw_dc cX11_stands 171 (.istore 7) 2 173 := ⟨by decide +kernel, rfl⟩
theorem dX11_stands_173 : gw_dc cX11_stands 173 (.iload 7) 2 175 := ⟨by decide +kernel, rfl⟩
theorem dX11_stands_175 : gw_dc cX11_stands 175 (.aload_n 0) 1 176 := ⟨by decide +kernel, rfl⟩
theorem dX11_stands_176 : gw_dc cX11_stands 176 (.getfield 9) 3 179 := ⟨by decide +kernel, rfl⟩
theorem dX11_stands_179 : gw_dc cX11_stands 179 (.iconst 4) 1 180 := ⟨by decide +kernel, rfl⟩
theorem dX11_stands_180 : gw_dc cX11_stands 180 (.iaload) 1 181 := ⟨by decide +kernel, rfl⟩
theorem dX11_stands_181 : gw_dc cX11_stands 181 (.if_icmp .ge 40) 3 184 := ⟨by decide +kernel, rfl⟩
theorem dX11_stands_221 : gw_dc cX11_stands 221 (.iload_n 2) 1 222 := ⟨by decide +kernel, rfl⟩
theorem dX11_stands_222 : gw_dc cX11_stands 222 (.ifCond .ne 7) 3 225 := ⟨by decide +kernel, rfl⟩
theorem dX11_stands_229 : gw_dc cX11_stands 229 (.iload_n 2) 1 230 := ⟨by decide +kernel, rfl⟩
theorem dX11_stands_230 : gw_dc cX11_stands 230 (.iconst 1) 1 231 := ⟨by decide +kernel, rfl⟩
theorem dX11_stands_231 : gw_dc cX11_stands 231 (.if_icmp .ne 8) 3 234 := ⟨by decide +kernel, rfl⟩
theorem dX11_stands_239 : gw_dc cX11_stands 239 (.iload_n 2) 1 240 := ⟨by decide +kernel, rfl⟩
theorem dX11_stands_240 : gw_dc cX11_stands 240 (.iconst 2) 1 241 := ⟨by decide +kernel, rfl⟩
theorem dX11_stands_241 : gw_dc cX11_stands 241 (.if_icmp .ne 8) 3 244 := ⟨by decide +kernel, rfl⟩
theorem dX11_stands_249 : gw_dc cX11_stands 249 (.iload 6) 2 251 := ⟨by decide +kernel, rfl⟩
theorem dX11_stands_251 : decode cX11_stands 251 = .ok (.ireturn, 1) := by decide +kernel
theorem dX11_stands_244 : gw_dc cX11_stands 244 (.iload 5) 2 246 := ⟨by decide +kernel, rfl⟩
theorem dX11_stands_246 : gw_dc cX11_stands 246 (.goto 5) 3 249 := ⟨by decide +kernel, rfl⟩
theorem dX11_stands_234 : gw_dc cX11_stands 234 (.iload 4) 2 236 := ⟨by decide +kernel, rfl⟩
theorem dX11_stands_236 : gw_dc cX11_stands 236 (.goto 15) 3 239 := ⟨by decide +kernel, rfl⟩
theorem dX11_stands_225 : gw_dc cX11_stands 225 (.iload_n 3) 1 226 := ⟨by decide +kernel, rfl⟩
theorem dX11_stands_226 : gw_dc cX11_stands 226 (.goto 25) 3 229 := ⟨by decide +kernel, rfl⟩
theorem dX11_stands_184 : gw_dc cX11_stands 184 (.iload 6) 2 186 := ⟨by decide +kernel, rfl⟩
theorem dX11_stands_186 : gw_dc cX11_stands 186 (.aload_n 0) 1 187 := ⟨by decide +kernel, rfl⟩
theorem dX11_stands_187 : gw_dc cX11_stands 187 (.iload 7) 2 189 := ⟨by decide +kernel, rfl⟩
theorem dX11_stands_189 : gw_dc cX11_stands 189 (.iconst 2) 1 190 := ⟨by decide +kernel, rfl⟩
theorem dX11_stands_190 : gw_dc cX11_stands 190 (.invokevirtual 242) 3 193 := ⟨by decide +kernel, rfl⟩
theorem dX11_stands_193 : gw_dc cX11_stands 193 (.iload_n 1) 1 194 := ⟨by decide +kernel, rfl⟩
theorem dX11_stands_194 : gw_dc cX11_stands 194 (.if_icmp .gt 17) 3 197 := ⟨by decide +kernel, rfl⟩
theorem dX11_stands_211 : gw_dc cX11_stands 211 (.iconst 0) 1 212 := ⟨by decide +kernel, rfl⟩
theorem dX11_stands_212 : gw_dc cX11_stands 212 (.iadd) 1 213 := ⟨by decide +kernel, rfl⟩
theorem dX11_stands_213 : gw_dc cX11_stands 213 (.istore 6) 2 215 := ⟨by decide +kernel, rfl⟩
theorem dX11_stands_215 : gw_dc cX11_stands 215 (.iinc 7 1) 3 218 := ⟨by decide +kernel, rfl⟩
theorem dX11_stands_218 : gw_dc cX11_stands 218 (.goto (-45)) 3 221 := ⟨by decide +kernel, rfl⟩
theorem dX11_stands_197 : gw_dc cX11_stands 197 (.aload_n 0) 1 198 := ⟨by decide +kernel, rfl⟩
theorem dX11_stands_198 : gw_dc cX11_stands 198 (.iload 7) 2 200 := ⟨by decide +kernel, rfl⟩
theorem dX11_stands_200 : gw_dc cX11_stands 200 (.invokevirtual 317) 3 203 := ⟨by decide +kernel, rfl⟩
theorem dX11_stands_203 : gw_dc cX11_stands 203 (.iload_n 1) 1 204 := ⟨by decide +kernel, rfl⟩
theorem dX11_stands_204 : gw_dc cX11_stands 204 (.if_icmp .le 7) 3 207 := ⟨by decide +kernel, rfl⟩
theorem dX11_stands_207 : gw_dc cX11_stands 207 (.iconst 1) 1 208 := ⟨by decide +kernel, rfl⟩
theorem dX11_stands_208 : gw_dc cX11_stands 208 (.goto 4) 3 211 := ⟨by decide +kernel, rfl⟩
theorem dX11_stands_62 : gw_dc cX11_stands 62 (.aload_n 0) 1 63 := ⟨by decide +kernel, rfl⟩
theorem dX11_stands_63 : gw_dc cX11_stands 63 (.aload_n 0) 1 64 := ⟨by decide +kernel, rfl⟩
theorem dX11_stands_64 : gw_dc cX11_stands 64 (.getfield 36) 3 67 := ⟨by decide +kernel, rfl⟩
theorem dX11_stands_67 : gw_dc cX11_stands 67 (.iload 6) 2 69 := ⟨by decide +kernel, rfl⟩
theorem dX11_stands_69 : gw_dc cX11_stands 69 (.iaload) 1 70 := ⟨by decide +kernel, rfl⟩
theorem dX11_stands_70 : gw_dc cX11_stands 70 (.iconst 2) 1 71 := ⟨by decide +kernel, rfl⟩
theorem dX11_stands_71 : gw_dc cX11_stands 71 (.invokevirtual 242) 3 74 := ⟨by decide +kernel, rfl⟩
theorem dX11_stands_74 : gw_dc cX11_stands 74 (.iload_n 1) 1 75 := ⟨by decide +kernel, rfl⟩
theorem dX11_stands_75 : gw_dc cX11_stands 75 (.if_icmp .gt 18) 3 78 := ⟨by decide +kernel, rfl⟩
theorem dX11_stands_93 : gw_dc cX11_stands 93 (.iconst 0) 1 94 := ⟨by decide +kernel, rfl⟩
theorem dX11_stands_94 : gw_dc cX11_stands 94 (.istore 7) 2 96 := ⟨by decide +kernel, rfl⟩
theorem dX11_stands_96 : gw_dc cX11_stands 96 (.iload_n 3) 1 97 := ⟨by decide +kernel, rfl⟩
theorem dX11_stands_97 : gw_dc cX11_stands 97 (.iload 7) 2 99 := ⟨by decide +kernel, rfl⟩
theorem dX11_stands_99 : gw_dc cX11_stands 99 (.ifCond .eq 7) 3 102 := ⟨by decide +kernel, rfl⟩
theorem dX11_stands_106 : gw_dc cX11_stands 106 (.iconst 0) 1 107 := ⟨by decide +kernel, rfl⟩
theorem dX11_stands_107 : gw_dc cX11_stands 107 (.iadd) 1 108 := ⟨by decide +kernel, rfl⟩
theorem dX11_stands_108 : gw_dc cX11_stands 108 (.istore_n 3) 1 109 := ⟨by decide +kernel, rfl⟩
theorem dX11_stands_109 : gw_dc cX11_stands 109 (.iload 4) 2 111 := ⟨by decide +kernel, rfl⟩
theorem dX11_stands_111 : gw_dc cX11_stands 111 (.iload 7) 2 113 := ⟨by decide +kernel, rfl⟩
theorem dX11_stands_113 : gw_dc cX11_stands 113 (.ifCond .eq 12) 3 116 := ⟨by decide +kernel, rfl⟩
theorem dX11_stands_125 : gw_dc cX11_stands 125 (.iconst 0) 1 126 := ⟨by decide +kernel, rfl⟩
theorem dX11_stands_126 : gw_dc cX11_stands 126 (.iadd) 1 127 := ⟨by decide +kernel, rfl⟩
theorem dX11_stands_127 : gw_dc cX11_stands 127 (.istore 4) 2 129 := ⟨by decide +kernel, rfl⟩
theorem dX11_stands_129 : gw_dc cX11_stands 129 (.iload 5) 2 131 := ⟨by decide +kernel, rfl⟩
theorem dX11_stands_131 : gw_dc cX11_stands 131 (.aload_n 0) 1 132 := ⟨by decide +kernel, rfl⟩
theorem dX11_stands_132 : gw_dc cX11_stands 132 (.getfield 60) 3 135 := ⟨by decide +kernel, rfl⟩
theorem dX11_stands_135 : gw_dc cX11_stands 135 (.iload 6) 2 137 := ⟨by decide +kernel, rfl⟩
theorem dX11_stands_137 : gw_dc cX11_stands 137 (.iaload) 1 138 := ⟨by decide +kernel, rfl⟩
theorem dX11_stands_138 : gw_dc cX11_stands 138 (.iload_n 1) 1 139 := ⟨by decide +kernel, rfl⟩
theorem dX11_stands_139 : gw_dc cX11_stands 139 (.if_icmp .gt 18) 3 142 := ⟨by decide +kernel, rfl⟩
theorem dX11_stands_157 : gw_dc cX11_stands 157 (.iconst 0) 1 158 := ⟨by decide +kernel, rfl⟩
theorem dX11_stands_158 : gw_dc cX11_stands 158 (.iadd) 1 159 := ⟨by decide +kernel, rfl⟩
theorem dX11_stands_159 : gw_dc cX11_stands 159 (.istore 5) 2 161 := ⟨by decide +kernel, rfl⟩
theorem dX11_stands_161 : gw_dc cX11_stands 161 (.iinc 6 1) 3 164 := ⟨by decide +kernel, rfl⟩
theorem dX11_stands_164 : gw_dc cX11_stands 164 (.goto (-115)) 3 167 := ⟨by decide +kernel, rfl⟩
theorem dX11_stands_142 : gw_dc cX11_stands 142 (.aload_n 0) 1 143 := ⟨by decide +kernel, rfl⟩
theorem dX11_stands_143 : gw_dc cX11_stands 143 (.getfield 42) 3 146 := ⟨by decide +kernel, rfl⟩
theorem dX11_stands_146 : gw_dc cX11_stands 146 (.iload 6) 2 148 := ⟨by decide +kernel, rfl⟩
theorem dX11_stands_148 : gw_dc cX11_stands 148 (.iaload) 1 149 := ⟨by decide +kernel, rfl⟩
theorem dX11_stands_149 : gw_dc cX11_stands 149 (.iload_n 1) 1 150 := ⟨by decide +kernel, rfl⟩
theorem dX11_stands_150 : gw_dc cX11_stands 150 (.if_icmp .le 7) 3 153 := ⟨by decide +kernel, rfl⟩
theorem dX11_stands_153 : gw_dc cX11_stands 153 (.iconst 1) 1 154 := ⟨by decide +kernel, rfl⟩
theorem dX11_stands_154 : gw_dc cX11_stands 154 (.goto 4) 3 157 := ⟨by decide +kernel, rfl⟩
theorem dX11_stands_116 : gw_dc cX11_stands 116 (.aload_n 0) 1 117 := ⟨by decide +kernel, rfl⟩
theorem dX11_stands_117 : gw_dc cX11_stands 117 (.iload 6) 2 119 := ⟨by decide +kernel, rfl⟩
theorem dX11_stands_119 : gw_dc cX11_stands 119 (.invokevirtual 273) 3 122 := ⟨by decide +kernel, rfl⟩
theorem dX11_stands_122 : gw_dc cX11_stands 122 (.goto 4) 3 125 := ⟨by decide +kernel, rfl⟩
theorem dX11_stands_102 : gw_dc cX11_stands 102 (.iconst 1) 1 103 := ⟨by decide +kernel, rfl⟩
theorem dX11_stands_103 : gw_dc cX11_stands 103 (.goto 4) 3 106 := ⟨by decide +kernel, rfl⟩
theorem dX11_stands_78 : gw_dc cX11_stands 78 (.aload_n 0) 1 79 := ⟨by decide +kernel, rfl⟩
theorem dX11_stands_79 : gw_dc cX11_stands 79 (.getfield 60) 3 82 := ⟨by decide +kernel, rfl⟩
theorem dX11_stands_82 : gw_dc cX11_stands 82 (.iload 6) 2 84 := ⟨by decide +kernel, rfl⟩
theorem dX11_stands_84 : gw_dc cX11_stands 84 (.iaload) 1 85 := ⟨by decide +kernel, rfl⟩
theorem dX11_stands_85 : gw_dc cX11_stands 85 (.iload_n 1) 1 86 := ⟨by decide +kernel, rfl⟩
theorem dX11_stands_86 : gw_dc cX11_stands 86 (.if_icmp .le 7) 3 89 := ⟨by decide +kernel, rfl⟩
theorem dX11_stands_89 : gw_dc cX11_stands 89 (.iconst 1) 1 90 := ⟨by decide +kernel, rfl⟩
theorem dX11_stands_90 : gw_dc cX11_stands 90 (.goto 4) 3 93 := ⟨by decide +kernel, rfl⟩
theorem dX11_stands_32 : gw_dc cX11_stands 32 (.iconst 0) 1 33 := ⟨by decide +kernel, rfl⟩
theorem dX11_stands_33 : decode cX11_stands 33 = .ok (.ireturn, 1) := by decide +kernel
theorem dX11_stands_0 : gw_dc cX11_stands 0 (.aload_n 0) 1 1 := ⟨by decide +kernel, rfl⟩
theorem dX11_stands_1 : gw_dc cX11_stands 1 (.iload_n 1) 1 2 := ⟨by decide +kernel, rfl⟩
theorem dX11_stands_2 : gw_dc cX11_stands 2 (.ifCond .lt 19) 3 5 := ⟨by decide +kernel, rfl⟩
theorem dX11_stands_21 : gw_dc cX11_stands 21 (.iconst 1) 1 22 := ⟨by decide +kernel, rfl⟩
theorem dX11_stands_5 : gw_dc cX11_stands 5 (.iload_n 2) 1 6 := ⟨by decide +kernel, rfl⟩
theorem dX11_stands_6 : gw_dc cX11_stands 6 (.i2l) 1 7 := ⟨by decide +kernel, rfl⟩
theorem dX11_stands_7 : gw_dc cX11_stands 7 (.lconst 0) 1 8 := ⟨by decide +kernel, rfl⟩
theorem dX11_stands_8 : gw_dc cX11_stands 8 (.ldc2_w 338) 3 11 := ⟨by decide +kernel, rfl⟩
theorem dX11_stands_11 : gw_dc cX11_stands 11 (.invokestatic 147) 3 14 := ⟨by decide +kernel, rfl⟩
theorem dX11_stands_14 : gw_dc cX11_stands 14 (.ifCond .eq 7) 3 17 := ⟨by decide +kernel, rfl⟩
theorem dX11_stands_17 : gw_dc cX11_stands 17 (.iconst 0) 1 18 := ⟨by decide +kernel, rfl⟩
theorem dX11_stands_18 : gw_dc cX11_stands 18 (.goto 4) 3 21 := ⟨by decide +kernel, rfl⟩
/-! The model, 22: who stands at a minute, walked -/
def saV (mi w : Int) : Int := if 0 ≤ mi ∧ wth w 0 3 ≠ 0 then 0 else 1
def saB (τ : Sg) (mi : Int) (p : Nat) : Int := if nOf τ (τ 231 p) 2 ≤ mi ∧ mi < τ 239 p then 1 else 0
def saS (τ : Sg) (mi : Int) (p : Nat) (x : Int × Int × Int) : Int × Int × Int :=
  (wr (x.1 + if nOf τ (τ 231 p) 2 ≤ mi ∧ mi < τ 239 p then 1 else 0), wr (x.2.1 + if nOf τ (τ 231 p) 2 ≤ mi ∧ mi < τ 239 p then nPo τ ((p : Nat) : Int) else 0), wr (x.2.2 + if τ 239 p ≤ mi ∧ mi < τ 233 p then 1 else 0))
def saL (τ : Sg) (mi : Int) (n : Nat) : Int × Int × Int := itr n (saS τ mi) (0, 0, 0)
theorem saL_s (τ : Sg) (mi : Int) (n : Nat) : saL τ mi (n + 1) = saS τ mi n (saL τ mi n) := rfl
def soS (τ : Sg) (mi : Int) (s : Nat) (c : Int) : Int := wr (c + if nOf τ ((s : Nat) : Int) 2 ≤ mi ∧ mi < nEo τ ((s : Nat) : Int) then 1 else 0)
def nSaA (τ : Sg) (mi w : Int) : Int := if w = 0 then (saL τ mi (τ 224 668).toNat).1 else if w = 1 then (saL τ mi (τ 224 668).toNat).2.1 else if w = 2 then (saL τ mi (τ 224 668).toNat).2.2 else itr (τ 224 4).toNat (soS τ mi) 0
def nSta (σ : Sg) (mi w : Int) : Int × Sg := if 0 < saV mi w then (0, nThr σ (saV mi w)) else (nSaA (nRu (nThr σ (saV mi w))) mi w, nRu (nThr σ (saV mi w)))
set_option maxRecDepth 4000 in
theorem s_X11_stands (ad : Nat → Nat) (σ : Sg)  (mi : Int) (w : Int) (hT : TW (σ 224)) : gw_Sp yX11_stands cX11_stands 8 (some .int) 7 0 0 [vR (some 223), vI mi, vI w] (gw_M0 ad) σ (gw_D (some (vI (nSta σ mi w).1)) (gw_M0 ad) ((nSta σ mi w).2)) gw_no := by
  refine gw_Sp.of [some (vR (some 223)), some (vI mi), some (vI w), none, none, none, none, none] (by decide +kernel) rfl (Nat.le_of_ble_eq_true rfl) ?_
  intro X G fx het hnm
  have j22 : gw_W X (yX11_stands.cls, cX11_stands, 8, (some .int), 7, 0, 0) G (gw_Z X G (gw_M0 ad) σ (gw_D (some (vI (nSta σ mi w).1)) (gw_M0 ad) ((nSta σ mi w).2)) gw_no 0 0) 0 0 (gw_M0 ad) (σ) 22 [some (vR (some 223)), some (vI mi), some (vI w), none, none, none, none, none] [vI (saV mi w), vR (some 223)] := by
    refine g_puti fx dX11_stands_22 fk_RX11_88 o_223 ?_
    refine gw_cg (σ' := nThr σ (saV mi w)) rfl rfl ?_
    refine g_aload_n fx dX11_stands_25 rfl ?_
    refine g_geti fx dX11_stands_26 fk_RX11_88 (by decide) o_223 ?_
    refine gw_cgt rfl (show nThr σ (saV mi w) 223 5 = saV mi w from su_same _ _ _ _) ?_
    refine g_if_le (tgt := 34) fx dX11_stands_29 (by decide) (fun h29 => ?_) (fun h29 => ?_)
    · refine g_aload_n fx dX11_stands_34 rfl ?_
      refine g_callVD0 fx dX11_stands_35 mv_RX11_323 my_X11_runs (s_X11_runs ad _ (by first | exact hT | exact hTx)) o_223 rfl rfl rfl (Nat.le_of_ble_eq_true rfl) (by decide) (by decide) ?_
      have hR : RS (nRu (nThr σ (saV mi w))) := (nRu_end (σ := (nThr σ (saV mi w))) hT).1.1
      have hTr := hR.1
      have hS := hTr.sacks
      have hP := hTr.p60
      refine g_iconst fx dX11_stands_38 (by unfold okI; omega) ?_
      refine g_istore_n fx dX11_stands_39 (by decide) rfl rfl ?_
      refine g_iconst fx dX11_stands_40 (by unfold okI; omega) ?_
      refine g_istore fx dX11_stands_41 (by decide) rfl rfl ?_
      refine g_iconst fx dX11_stands_43 (by unfold okI; omega) ?_
      refine g_istore fx dX11_stands_44 (by decide) rfl rfl ?_
      refine g_iconst fx dX11_stands_46 (by unfold okI; omega) ?_
      refine g_istore fx dX11_stands_47 (by decide) rfl rfl ?_
      have loop49 : ∀ k : Nat, k ≤ ((nRu (nThr σ (saV mi w))) 224 668).toNat → gw_W X (yX11_stands.cls, cX11_stands, 8, (some .int), 7, 0, 0) G (gw_Z X G (gw_M0 ad) σ (gw_D (some (vI (nSta σ mi w).1)) (gw_M0 ad) ((nSta σ mi w).2)) gw_no 0 0) 0 0 (gw_M0 ad) ((nRu (nThr σ (saV mi w)))) 49 [some (vR (some 223)), some (vI mi), some (vI w), some (vI (saL (nRu (nThr σ (saV mi w))) mi k).1), some (vI (saL (nRu (nThr σ (saV mi w))) mi k).2.1), some (vI (saL (nRu (nThr σ (saV mi w))) mi k).2.2), some (vI (k : Nat)), none] [] := by
        refine up_ind _ _ (fun k hk ih => ?_)
        refine g_iload fx dX11_stands_49 rfl ?_
        refine g_aload_n fx dX11_stands_51 rfl ?_
        refine g_getr fx dX11_stands_52 fk_RX11_9 o_223 rf_223_0 ?_
        refine g_sipush fx dX11_stands_55 (by decide) ?_
        refine g_iald fx dX11_stands_58 o_224 (by decide) (by decide) ?_
        rw [show Int.toNat 668 = 668 from rfl]
        refine g_icmp_ge (tgt := 167) fx dX11_stands_59 (by decide) (fun h59 => ?_) (fun h59 => ?_)
        · refine g_iconst fx dX11_stands_167 (by unfold okI; omega) ?_
          refine g_istore fx dX11_stands_168 (by decide) rfl rfl ?_
          refine g_iconst fx dX11_stands_170 (by unfold okI; omega) ?_
          refine g_istore fx dX11_stands_171 (by decide) rfl rfl ?_
          have loop173 : ∀ i : Nat, i ≤ ((nRu (nThr σ (saV mi w))) 224 4).toNat → gw_W X (yX11_stands.cls, cX11_stands, 8, (some .int), 7, 0, 0) G (gw_Z X G (gw_M0 ad) σ (gw_D (some (vI (nSta σ mi w).1)) (gw_M0 ad) ((nSta σ mi w).2)) gw_no 0 0) 0 0 (gw_M0 ad) ((nRu (nThr σ (saV mi w)))) 173 [some (vR (some 223)), some (vI mi), some (vI w), some (vI (saL (nRu (nThr σ (saV mi w))) mi ((nRu (nThr σ (saV mi w))) 224 668).toNat).1), some (vI (saL (nRu (nThr σ (saV mi w))) mi ((nRu (nThr σ (saV mi w))) 224 668).toNat).2.1), some (vI (saL (nRu (nThr σ (saV mi w))) mi ((nRu (nThr σ (saV mi w))) 224 668).toNat).2.2), some (vI (itr i (soS (nRu (nThr σ (saV mi w))) mi) 0)), some (vI (i : Nat))] [] := by
            refine up_ind _ _ (fun i hi ih => ?_)
            refine g_iload fx dX11_stands_173 rfl ?_
            refine g_aload_n fx dX11_stands_175 rfl ?_
            refine g_getr fx dX11_stands_176 fk_RX11_9 o_223 rf_223_0 ?_
            refine g_iconst fx dX11_stands_179 (by unfold okI; omega) ?_
            refine g_iald fx dX11_stands_180 o_224 (by decide) (by decide) ?_
            rw [show Int.toNat 4 = 4 from rfl]
            refine g_icmp_ge (tgt := 221) fx dX11_stands_181 (by decide) (fun h181 => ?_) (fun h181 => ?_)
            · refine g_iload_n fx dX11_stands_221 rfl ?_
              refine g_if_ne (tgt := 229) fx dX11_stands_222 (by decide) (fun h222 => ?_) (fun h222 => ?_)
              · refine g_iload_n fx dX11_stands_229 rfl ?_
                refine g_iconst fx dX11_stands_230 (by unfold okI; omega) ?_
                refine g_icmp_ne (tgt := 239) fx dX11_stands_231 (by decide) (fun h231 => ?_) (fun h231 => ?_)
                · refine g_iload_n fx dX11_stands_239 rfl ?_
                  refine g_iconst fx dX11_stands_240 (by unfold okI; omega) ?_
                  refine g_icmp_ne (tgt := 249) fx dX11_stands_241 (by decide) (fun h241 => ?_) (fun h241 => ?_)
                  · refine g_iload fx dX11_stands_249 rfl ?_
                    exact g_iret fx rfl dX11_stands_251 (by decide) (by decide) (gw_le.rf _) ⟨by first | (exfalso; omega) | (rw [nSta, if_neg (by omega), nSaA, show ((nRu (nThr σ (saV mi w))) 224 4).toNat = i by omega]; (repeat first | rw [if_pos (by omega)] | rw [if_neg (by omega)]) <;> rfl), rfl, by rw [nSta, if_neg (by omega)]⟩
                  · refine g_iload fx dX11_stands_244 rfl ?_
                    refine g_goto (tgt := 251) fx dX11_stands_246 (by decide) ?_
                    exact g_iret fx rfl dX11_stands_251 (by decide) (by decide) (gw_le.rf _) ⟨by first | (exfalso; omega) | (rw [nSta, if_neg (by omega), nSaA, show ((nRu (nThr σ (saV mi w))) 224 4).toNat = i by omega]; (repeat first | rw [if_pos (by omega)] | rw [if_neg (by omega)]) <;> rfl), rfl, by rw [nSta, if_neg (by omega)]⟩
                · refine g_iload fx dX11_stands_234 rfl ?_
                  refine g_goto (tgt := 251) fx dX11_stands_236 (by decide) ?_
                  exact g_iret fx rfl dX11_stands_251 (by decide) (by decide) (gw_le.rf _) ⟨by first | (exfalso; omega) | (rw [nSta, if_neg (by omega), nSaA, show ((nRu (nThr σ (saV mi w))) 224 4).toNat = i by omega]; (repeat first | rw [if_pos (by omega)] | rw [if_neg (by omega)]) <;> rfl), rfl, by rw [nSta, if_neg (by omega)]⟩
              · refine g_iload_n fx dX11_stands_225 rfl ?_
                refine g_goto (tgt := 251) fx dX11_stands_226 (by decide) ?_
                exact g_iret fx rfl dX11_stands_251 (by decide) (by decide) (gw_le.rf _) ⟨by first | (exfalso; omega) | (rw [nSta, if_neg (by omega), nSaA, show ((nRu (nThr σ (saV mi w))) 224 4).toNat = i by omega]; (repeat first | rw [if_pos (by omega)] | rw [if_neg (by omega)]) <;> rfl), rfl, by rw [nSta, if_neg (by omega)]⟩
            · refine g_iload fx dX11_stands_184 rfl ?_
              refine g_aload_n fx dX11_stands_186 rfl ?_
              refine g_iload fx dX11_stands_187 rfl ?_
              refine g_iconst fx dX11_stands_189 (by unfold okI; omega) ?_
              refine g_callVD fx dX11_stands_190 mv_RX11_242 my_X11_of (s_X11_of ad _ _ _ (by omega)) o_223 rfl rfl rfl (Nat.le_of_ble_eq_true rfl) (by decide) (by decide) ?_
              refine g_iload_n fx dX11_stands_193 rfl ?_
              refine g_icmp_gt (tgt := 211) fx dX11_stands_194 (by decide) (fun h194 => ?_) (fun h194 => ?_)
              · refine g_iconst fx dX11_stands_211 (by unfold okI; omega) ?_
                refine g_iadd fx dX11_stands_212 ?_
                refine g_istore fx dX11_stands_213 (by decide) rfl rfl ?_
                refine g_iinc1 fx dX11_stands_215 (by decide) rfl rfl (by unfold okI; omega) rfl ?_
                refine g_goto (tgt := 173) fx dX11_stands_218 (by decide) ?_
                exact gw_cg rfl (by rw [itr_s, soS, show ((i : Nat) : Int) + 1 = ((i + 1 : Nat) : Int) by omega]; (repeat first | rw [if_pos (by omega)] | rw [if_neg (by omega)]) <;> rfl) (ih (by omega))
              · refine g_aload_n fx dX11_stands_197 rfl ?_
                refine g_iload fx dX11_stands_198 rfl ?_
                refine g_callVD fx dX11_stands_200 mv_RX11_317 my_X11_endOf (s_X11_endOf ad _ _ (by omega)) o_223 rfl rfl rfl (Nat.le_of_ble_eq_true rfl) (by decide) (by decide) ?_
                refine g_iload_n fx dX11_stands_203 rfl ?_
                refine g_icmp_le (tgt := 211) fx dX11_stands_204 (by decide) (fun h204 => ?_) (fun h204 => ?_)
                · refine g_iconst fx dX11_stands_211 (by unfold okI; omega) ?_
                  refine g_iadd fx dX11_stands_212 ?_
                  refine g_istore fx dX11_stands_213 (by decide) rfl rfl ?_
                  refine g_iinc1 fx dX11_stands_215 (by decide) rfl rfl (by unfold okI; omega) rfl ?_
                  refine g_goto (tgt := 173) fx dX11_stands_218 (by decide) ?_
                  exact gw_cg rfl (by rw [itr_s, soS, show ((i : Nat) : Int) + 1 = ((i + 1 : Nat) : Int) by omega]; (repeat first | rw [if_pos (by omega)] | rw [if_neg (by omega)]) <;> rfl) (ih (by omega))
                · refine g_iconst fx dX11_stands_207 (by unfold okI; omega) ?_
                  refine g_goto (tgt := 212) fx dX11_stands_208 (by decide) ?_
                  refine g_iadd fx dX11_stands_212 ?_
                  refine g_istore fx dX11_stands_213 (by decide) rfl rfl ?_
                  refine g_iinc1 fx dX11_stands_215 (by decide) rfl rfl (by unfold okI; omega) rfl ?_
                  refine g_goto (tgt := 173) fx dX11_stands_218 (by decide) ?_
                  exact gw_cg rfl (by rw [itr_s, soS, show ((i : Nat) : Int) + 1 = ((i + 1 : Nat) : Int) by omega]; (repeat first | rw [if_pos (by omega)] | rw [if_neg (by omega)]) <;> rfl) (ih (by omega))
          exact gw_cg rfl (by rw [show ((nRu (nThr σ (saV mi w))) 224 668).toNat = k by omega] <;> rfl) (loop173 0 (Nat.zero_le _))
        · have hsi := hR.2 k (by omega)
          refine g_aload_n fx dX11_stands_62 rfl ?_
          refine g_aload_n fx dX11_stands_63 rfl ?_
          refine g_getr fx dX11_stands_64 fk_RX11_36 o_223 rf_223_18 ?_
          refine g_iload fx dX11_stands_67 rfl ?_
          refine g_iald fx dX11_stands_69 o_231 (by omega) (by show _ < ((60 : Nat) : Int); omega) ?_
          rw [show ((k : Nat) : Int).toNat = k from rfl]
          refine g_iconst fx dX11_stands_70 (by unfold okI; omega) ?_
          refine g_callVD fx dX11_stands_71 mv_RX11_242 my_X11_of (s_X11_of ad _ _ _ (by omega)) o_223 rfl rfl rfl (Nat.le_of_ble_eq_true rfl) (by decide) (by decide) ?_
          refine g_iload_n fx dX11_stands_74 rfl ?_
          refine g_icmp_gt (tgt := 93) fx dX11_stands_75 (by decide) (fun h75 => ?_) (fun h75 => ?_)
          · refine g_iconst fx dX11_stands_93 (by unfold okI; omega) ?_
            refine g_istore fx dX11_stands_94 (by decide) rfl rfl ?_
            refine g_iload_n fx dX11_stands_96 rfl ?_
            refine g_iload fx dX11_stands_97 rfl ?_
            refine g_if_eq (tgt := 106) fx dX11_stands_99 (by decide) (fun h99 => ?_) (fun h99 => ?_)
            · refine g_iconst fx dX11_stands_106 (by unfold okI; omega) ?_
              refine g_iadd fx dX11_stands_107 ?_
              refine g_istore_n fx dX11_stands_108 (by decide) rfl rfl ?_
              refine g_iload fx dX11_stands_109 rfl ?_
              refine g_iload fx dX11_stands_111 rfl ?_
              refine g_if_eq (tgt := 125) fx dX11_stands_113 (by decide) (fun h113 => ?_) (fun h113 => ?_)
              · refine g_iconst fx dX11_stands_125 (by unfold okI; omega) ?_
                refine g_iadd fx dX11_stands_126 ?_
                refine g_istore fx dX11_stands_127 (by decide) rfl rfl ?_
                refine g_iload fx dX11_stands_129 rfl ?_
                refine g_aload_n fx dX11_stands_131 rfl ?_
                refine g_getr fx dX11_stands_132 fk_RX11_60 o_223 rf_223_26 ?_
                refine g_iload fx dX11_stands_135 rfl ?_
                refine g_iald fx dX11_stands_137 o_239 (by omega) (by show _ < ((60 : Nat) : Int); omega) ?_
                rw [show ((k : Nat) : Int).toNat = k from rfl]
                refine g_iload_n fx dX11_stands_138 rfl ?_
                refine g_icmp_gt (tgt := 157) fx dX11_stands_139 (by decide) (fun h139 => ?_) (fun h139 => ?_)
                · refine g_iconst fx dX11_stands_157 (by unfold okI; omega) ?_
                  refine g_iadd fx dX11_stands_158 ?_
                  refine g_istore fx dX11_stands_159 (by decide) rfl rfl ?_
                  refine g_iinc1 fx dX11_stands_161 (by decide) rfl rfl (by unfold okI; omega) rfl ?_
                  refine g_goto (tgt := 49) fx dX11_stands_164 (by decide) ?_
                  refine g_kill 7 rfl ?_
                  first
                  | (exfalso; omega)
                  | exact gw_cg rfl (by rw [saL_s, saS, show ((k : Nat) : Int) + 1 = ((k + 1 : Nat) : Int) by omega]; (repeat first | rw [if_pos (by omega)] | rw [if_neg (by omega)]) <;> rfl) (ih (by omega))
                · refine g_aload_n fx dX11_stands_142 rfl ?_
                  refine g_getr fx dX11_stands_143 fk_RX11_42 o_223 rf_223_20 ?_
                  refine g_iload fx dX11_stands_146 rfl ?_
                  refine g_iald fx dX11_stands_148 o_233 (by omega) (by show _ < ((60 : Nat) : Int); omega) ?_
                  rw [show ((k : Nat) : Int).toNat = k from rfl]
                  refine g_iload_n fx dX11_stands_149 rfl ?_
                  refine g_icmp_le (tgt := 157) fx dX11_stands_150 (by decide) (fun h150 => ?_) (fun h150 => ?_)
                  · refine g_iconst fx dX11_stands_157 (by unfold okI; omega) ?_
                    refine g_iadd fx dX11_stands_158 ?_
                    refine g_istore fx dX11_stands_159 (by decide) rfl rfl ?_
                    refine g_iinc1 fx dX11_stands_161 (by decide) rfl rfl (by unfold okI; omega) rfl ?_
                    refine g_goto (tgt := 49) fx dX11_stands_164 (by decide) ?_
                    refine g_kill 7 rfl ?_
                    first
                    | (exfalso; omega)
                    | exact gw_cg rfl (by rw [saL_s, saS, show ((k : Nat) : Int) + 1 = ((k + 1 : Nat) : Int) by omega]; (repeat first | rw [if_pos (by omega)] | rw [if_neg (by omega)]) <;> rfl) (ih (by omega))
                  · refine g_iconst fx dX11_stands_153 (by unfold okI; omega) ?_
                    refine g_goto (tgt := 158) fx dX11_stands_154 (by decide) ?_
                    refine g_iadd fx dX11_stands_158 ?_
                    refine g_istore fx dX11_stands_159 (by decide) rfl rfl ?_
                    refine g_iinc1 fx dX11_stands_161 (by decide) rfl rfl (by unfold okI; omega) rfl ?_
                    refine g_goto (tgt := 49) fx dX11_stands_164 (by decide) ?_
                    refine g_kill 7 rfl ?_
                    first
                    | (exfalso; omega)
                    | exact gw_cg rfl (by rw [saL_s, saS, show ((k : Nat) : Int) + 1 = ((k + 1 : Nat) : Int) by omega]; (repeat first | rw [if_pos (by omega)] | rw [if_neg (by omega)]) <;> rfl) (ih (by omega))
              · refine g_aload_n fx dX11_stands_116 rfl ?_
                refine g_iload fx dX11_stands_117 rfl ?_
                refine g_callVD fx dX11_stands_119 mv_RX11_273 my_X11_pounds (s_X11_pounds ad _ _ (by omega)) o_223 rfl rfl rfl (Nat.le_of_ble_eq_true rfl) (by decide) (by decide) ?_
                refine g_goto (tgt := 126) fx dX11_stands_122 (by decide) ?_
                refine g_iadd fx dX11_stands_126 ?_
                refine g_istore fx dX11_stands_127 (by decide) rfl rfl ?_
                refine g_iload fx dX11_stands_129 rfl ?_
                refine g_aload_n fx dX11_stands_131 rfl ?_
                refine g_getr fx dX11_stands_132 fk_RX11_60 o_223 rf_223_26 ?_
                refine g_iload fx dX11_stands_135 rfl ?_
                refine g_iald fx dX11_stands_137 o_239 (by omega) (by show _ < ((60 : Nat) : Int); omega) ?_
                rw [show ((k : Nat) : Int).toNat = k from rfl]
                refine g_iload_n fx dX11_stands_138 rfl ?_
                refine g_icmp_gt (tgt := 157) fx dX11_stands_139 (by decide) (fun h139 => ?_) (fun h139 => ?_)
                · refine g_iconst fx dX11_stands_157 (by unfold okI; omega) ?_
                  refine g_iadd fx dX11_stands_158 ?_
                  refine g_istore fx dX11_stands_159 (by decide) rfl rfl ?_
                  refine g_iinc1 fx dX11_stands_161 (by decide) rfl rfl (by unfold okI; omega) rfl ?_
                  refine g_goto (tgt := 49) fx dX11_stands_164 (by decide) ?_
                  refine g_kill 7 rfl ?_
                  first
                  | (exfalso; omega)
                  | exact gw_cg rfl (by rw [saL_s, saS, show ((k : Nat) : Int) + 1 = ((k + 1 : Nat) : Int) by omega]; (repeat first | rw [if_pos (by omega)] | rw [if_neg (by omega)]) <;> rfl) (ih (by omega))
                · refine g_aload_n fx dX11_stands_142 rfl ?_
                  refine g_getr fx dX11_stands_143 fk_RX11_42 o_223 rf_223_20 ?_
                  refine g_iload fx dX11_stands_146 rfl ?_
                  refine g_iald fx dX11_stands_148 o_233 (by omega) (by show _ < ((60 : Nat) : Int); omega) ?_
                  rw [show ((k : Nat) : Int).toNat = k from rfl]
                  refine g_iload_n fx dX11_stands_149 rfl ?_
                  refine g_icmp_le (tgt := 157) fx dX11_stands_150 (by decide) (fun h150 => ?_) (fun h150 => ?_)
                  · refine g_iconst fx dX11_stands_157 (by unfold okI; omega) ?_
                    refine g_iadd fx dX11_stands_158 ?_
                    refine g_istore fx dX11_stands_159 (by decide) rfl rfl ?_
                    refine g_iinc1 fx dX11_stands_161 (by decide) rfl rfl (by unfold okI; omega) rfl ?_
                    refine g_goto (tgt := 49) fx dX11_stands_164 (by decide) ?_
                    refine g_kill 7 rfl ?_
                    first
                    | (exfalso; omega)
                    | exact gw_cg rfl (by rw [saL_s, saS, show ((k : Nat) : Int) + 1 = ((k + 1 : Nat) : Int) by omega]; (repeat first | rw [if_pos (by omega)] | rw [if_neg (by omega)]) <;> rfl) (ih (by omega))
                  · refine g_iconst fx dX11_stands_153 (by unfold okI; omega) ?_
                    refine g_goto (tgt := 158) fx dX11_stands_154 (by decide) ?_
                    refine g_iadd fx dX11_stands_158 ?_
                    refine g_istore fx dX11_stands_159 (by decide) rfl rfl ?_
                    refine g_iinc1 fx dX11_stands_161 (by decide) rfl rfl (by unfold okI; omega) rfl ?_
                    refine g_goto (tgt := 49) fx dX11_stands_164 (by decide) ?_
                    refine g_kill 7 rfl ?_
                    first
                    | (exfalso; omega)
                    | exact gw_cg rfl (by rw [saL_s, saS, show ((k : Nat) : Int) + 1 = ((k + 1 : Nat) : Int) by omega]; (repeat first | rw [if_pos (by omega)] | rw [if_neg (by omega)]) <;> rfl) (ih (by omega))
            · refine g_iconst fx dX11_stands_102 (by unfold okI; omega) ?_
              refine g_goto (tgt := 107) fx dX11_stands_103 (by decide) ?_
              refine g_iadd fx dX11_stands_107 ?_
              refine g_istore_n fx dX11_stands_108 (by decide) rfl rfl ?_
              refine g_iload fx dX11_stands_109 rfl ?_
              refine g_iload fx dX11_stands_111 rfl ?_
              refine g_if_eq (tgt := 125) fx dX11_stands_113 (by decide) (fun h113 => ?_) (fun h113 => ?_)
              · refine g_iconst fx dX11_stands_125 (by unfold okI; omega) ?_
                refine g_iadd fx dX11_stands_126 ?_
                refine g_istore fx dX11_stands_127 (by decide) rfl rfl ?_
                refine g_iload fx dX11_stands_129 rfl ?_
                refine g_aload_n fx dX11_stands_131 rfl ?_
                refine g_getr fx dX11_stands_132 fk_RX11_60 o_223 rf_223_26 ?_
                refine g_iload fx dX11_stands_135 rfl ?_
                refine g_iald fx dX11_stands_137 o_239 (by omega) (by show _ < ((60 : Nat) : Int); omega) ?_
                rw [show ((k : Nat) : Int).toNat = k from rfl]
                refine g_iload_n fx dX11_stands_138 rfl ?_
                refine g_icmp_gt (tgt := 157) fx dX11_stands_139 (by decide) (fun h139 => ?_) (fun h139 => ?_)
                · refine g_iconst fx dX11_stands_157 (by unfold okI; omega) ?_
                  refine g_iadd fx dX11_stands_158 ?_
                  refine g_istore fx dX11_stands_159 (by decide) rfl rfl ?_
                  refine g_iinc1 fx dX11_stands_161 (by decide) rfl rfl (by unfold okI; omega) rfl ?_
                  refine g_goto (tgt := 49) fx dX11_stands_164 (by decide) ?_
                  refine g_kill 7 rfl ?_
                  first
                  | (exfalso; omega)
                  | exact gw_cg rfl (by rw [saL_s, saS, show ((k : Nat) : Int) + 1 = ((k + 1 : Nat) : Int) by omega]; (repeat first | rw [if_pos (by omega)] | rw [if_neg (by omega)]) <;> rfl) (ih (by omega))
                · refine g_aload_n fx dX11_stands_142 rfl ?_
                  refine g_getr fx dX11_stands_143 fk_RX11_42 o_223 rf_223_20 ?_
                  refine g_iload fx dX11_stands_146 rfl ?_
                  refine g_iald fx dX11_stands_148 o_233 (by omega) (by show _ < ((60 : Nat) : Int); omega) ?_
                  rw [show ((k : Nat) : Int).toNat = k from rfl]
                  refine g_iload_n fx dX11_stands_149 rfl ?_
                  refine g_icmp_le (tgt := 157) fx dX11_stands_150 (by decide) (fun h150 => ?_) (fun h150 => ?_)
                  · refine g_iconst fx dX11_stands_157 (by unfold okI; omega) ?_
                    refine g_iadd fx dX11_stands_158 ?_
                    refine g_istore fx dX11_stands_159 (by decide) rfl rfl ?_
                    refine g_iinc1 fx dX11_stands_161 (by decide) rfl rfl (by unfold okI; omega) rfl ?_
                    refine g_goto (tgt := 49) fx dX11_stands_164 (by decide) ?_
                    refine g_kill 7 rfl ?_
                    first
                    | (exfalso; omega)
                    | exact gw_cg rfl (by rw [saL_s, saS, show ((k : Nat) : Int) + 1 = ((k + 1 : Nat) : Int) by omega]; (repeat first | rw [if_pos (by omega)] | rw [if_neg (by omega)]) <;> rfl) (ih (by omega))
                  · refine g_iconst fx dX11_stands_153 (by unfold okI; omega) ?_
                    refine g_goto (tgt := 158) fx dX11_stands_154 (by decide) ?_
                    refine g_iadd fx dX11_stands_158 ?_
                    refine g_istore fx dX11_stands_159 (by decide) rfl rfl ?_
                    refine g_iinc1 fx dX11_stands_161 (by decide) rfl rfl (by unfold okI; omega) rfl ?_
                    refine g_goto (tgt := 49) fx dX11_stands_164 (by decide) ?_
                    refine g_kill 7 rfl ?_
                    first
                    | (exfalso; omega)
                    | exact gw_cg rfl (by rw [saL_s, saS, show ((k : Nat) : Int) + 1 = ((k + 1 : Nat) : Int) by omega]; (repeat first | rw [if_pos (by omega)] | rw [if_neg (by omega)]) <;> rfl) (ih (by omega))
              · refine g_aload_n fx dX11_stands_116 rfl ?_
                refine g_iload fx dX11_stands_117 rfl ?_
                refine g_callVD fx dX11_stands_119 mv_RX11_273 my_X11_pounds (s_X11_pounds ad _ _ (by omega)) o_223 rfl rfl rfl (Nat.le_of_ble_eq_true rfl) (by decide) (by decide) ?_
                refine g_goto (tgt := 126) fx dX11_stands_122 (by decide) ?_
                refine g_iadd fx dX11_stands_126 ?_
                refine g_istore fx dX11_stands_127 (by decide) rfl rfl ?_
                refine g_iload fx dX11_stands_129 rfl ?_
                refine g_aload_n fx dX11_stands_131 rfl ?_
                refine g_getr fx dX11_stands_132 fk_RX11_60 o_223 rf_223_26 ?_
                refine g_iload fx dX11_stands_135 rfl ?_
                refine g_iald fx dX11_stands_137 o_239 (by omega) (by show _ < ((60 : Nat) : Int); omega) ?_
                rw [show ((k : Nat) : Int).toNat = k from rfl]
                refine g_iload_n fx dX11_stands_138 rfl ?_
                refine g_icmp_gt (tgt := 157) fx dX11_stands_139 (by decide) (fun h139 => ?_) (fun h139 => ?_)
                · refine g_iconst fx dX11_stands_157 (by unfold okI; omega) ?_
                  refine g_iadd fx dX11_stands_158 ?_
                  refine g_istore fx dX11_stands_159 (by decide) rfl rfl ?_
                  refine g_iinc1 fx dX11_stands_161 (by decide) rfl rfl (by unfold okI; omega) rfl ?_
                  refine g_goto (tgt := 49) fx dX11_stands_164 (by decide) ?_
                  refine g_kill 7 rfl ?_
                  first
                  | (exfalso; omega)
                  | exact gw_cg rfl (by rw [saL_s, saS, show ((k : Nat) : Int) + 1 = ((k + 1 : Nat) : Int) by omega]; (repeat first | rw [if_pos (by omega)] | rw [if_neg (by omega)]) <;> rfl) (ih (by omega))
                · refine g_aload_n fx dX11_stands_142 rfl ?_
                  refine g_getr fx dX11_stands_143 fk_RX11_42 o_223 rf_223_20 ?_
                  refine g_iload fx dX11_stands_146 rfl ?_
                  refine g_iald fx dX11_stands_148 o_233 (by omega) (by show _ < ((60 : Nat) : Int); omega) ?_
                  rw [show ((k : Nat) : Int).toNat = k from rfl]
                  refine g_iload_n fx dX11_stands_149 rfl ?_
                  refine g_icmp_le (tgt := 157) fx dX11_stands_150 (by decide) (fun h150 => ?_) (fun h150 => ?_)
                  · refine g_iconst fx dX11_stands_157 (by unfold okI; omega) ?_
                    refine g_iadd fx dX11_stands_158 ?_
                    refine g_istore fx dX11_stands_159 (by decide) rfl rfl ?_
                    refine g_iinc1 fx dX11_stands_161 (by decide) rfl rfl (by unfold okI; omega) rfl ?_
                    refine g_goto (tgt := 49) fx dX11_stands_164 (by decide) ?_
                    refine g_kill 7 rfl ?_
                    first
                    | (exfalso; omega)
                    | exact gw_cg rfl (by rw [saL_s, saS, show ((k : Nat) : Int) + 1 = ((k + 1 : Nat) : Int) by omega]; (repeat first | rw [if_pos (by omega)] | rw [if_neg (by omega)]) <;> rfl) (ih (by omega))
                  · refine g_iconst fx dX11_stands_153 (by unfold okI; omega) ?_
                    refine g_goto (tgt := 158) fx dX11_stands_154 (by decide) ?_
                    refine g_iadd fx dX11_stands_158 ?_
                    refine g_istore fx dX11_stands_159 (by decide) rfl rfl ?_
                    refine g_iinc1 fx dX11_stands_161 (by decide) rfl rfl (by unfold okI; omega) rfl ?_
                    refine g_goto (tgt := 49) fx dX11_stands_164 (by decide) ?_
                    refine g_kill 7 rfl ?_
                    first
                    | (exfalso; omega)
                    | exact gw_cg rfl (by rw [saL_s, saS, show ((k : Nat) : Int) + 1 = ((k + 1 : Nat) : Int) by omega]; (repeat first | rw [if_pos (by omega)] | rw [if_neg (by omega)]) <;> rfl) (ih (by omega))
          · refine g_aload_n fx dX11_stands_78 rfl ?_
            refine g_getr fx dX11_stands_79 fk_RX11_60 o_223 rf_223_26 ?_
            refine g_iload fx dX11_stands_82 rfl ?_
            refine g_iald fx dX11_stands_84 o_239 (by omega) (by show _ < ((60 : Nat) : Int); omega) ?_
            rw [show ((k : Nat) : Int).toNat = k from rfl]
            refine g_iload_n fx dX11_stands_85 rfl ?_
            refine g_icmp_le (tgt := 93) fx dX11_stands_86 (by decide) (fun h86 => ?_) (fun h86 => ?_)
            · refine g_iconst fx dX11_stands_93 (by unfold okI; omega) ?_
              refine g_istore fx dX11_stands_94 (by decide) rfl rfl ?_
              refine g_iload_n fx dX11_stands_96 rfl ?_
              refine g_iload fx dX11_stands_97 rfl ?_
              refine g_if_eq (tgt := 106) fx dX11_stands_99 (by decide) (fun h99 => ?_) (fun h99 => ?_)
              · refine g_iconst fx dX11_stands_106 (by unfold okI; omega) ?_
                refine g_iadd fx dX11_stands_107 ?_
                refine g_istore_n fx dX11_stands_108 (by decide) rfl rfl ?_
                refine g_iload fx dX11_stands_109 rfl ?_
                refine g_iload fx dX11_stands_111 rfl ?_
                refine g_if_eq (tgt := 125) fx dX11_stands_113 (by decide) (fun h113 => ?_) (fun h113 => ?_)
                · refine g_iconst fx dX11_stands_125 (by unfold okI; omega) ?_
                  refine g_iadd fx dX11_stands_126 ?_
                  refine g_istore fx dX11_stands_127 (by decide) rfl rfl ?_
                  refine g_iload fx dX11_stands_129 rfl ?_
                  refine g_aload_n fx dX11_stands_131 rfl ?_
                  refine g_getr fx dX11_stands_132 fk_RX11_60 o_223 rf_223_26 ?_
                  refine g_iload fx dX11_stands_135 rfl ?_
                  refine g_iald fx dX11_stands_137 o_239 (by omega) (by show _ < ((60 : Nat) : Int); omega) ?_
                  rw [show ((k : Nat) : Int).toNat = k from rfl]
                  refine g_iload_n fx dX11_stands_138 rfl ?_
                  refine g_icmp_gt (tgt := 157) fx dX11_stands_139 (by decide) (fun h139 => ?_) (fun h139 => ?_)
                  · refine g_iconst fx dX11_stands_157 (by unfold okI; omega) ?_
                    refine g_iadd fx dX11_stands_158 ?_
                    refine g_istore fx dX11_stands_159 (by decide) rfl rfl ?_
                    refine g_iinc1 fx dX11_stands_161 (by decide) rfl rfl (by unfold okI; omega) rfl ?_
                    refine g_goto (tgt := 49) fx dX11_stands_164 (by decide) ?_
                    refine g_kill 7 rfl ?_
                    first
                    | (exfalso; omega)
                    | exact gw_cg rfl (by rw [saL_s, saS, show ((k : Nat) : Int) + 1 = ((k + 1 : Nat) : Int) by omega]; (repeat first | rw [if_pos (by omega)] | rw [if_neg (by omega)]) <;> rfl) (ih (by omega))
                  · refine g_aload_n fx dX11_stands_142 rfl ?_
                    refine g_getr fx dX11_stands_143 fk_RX11_42 o_223 rf_223_20 ?_
                    refine g_iload fx dX11_stands_146 rfl ?_
                    refine g_iald fx dX11_stands_148 o_233 (by omega) (by show _ < ((60 : Nat) : Int); omega) ?_
                    rw [show ((k : Nat) : Int).toNat = k from rfl]
                    refine g_iload_n fx dX11_stands_149 rfl ?_
                    refine g_icmp_le (tgt := 157) fx dX11_stands_150 (by decide) (fun h150 => ?_) (fun h150 => ?_)
                    · refine g_iconst fx dX11_stands_157 (by unfold okI; omega) ?_
                      refine g_iadd fx dX11_stands_158 ?_
                      refine g_istore fx dX11_stands_159 (by decide) rfl rfl ?_
                      refine g_iinc1 fx dX11_stands_161 (by decide) rfl rfl (by unfold okI; omega) rfl ?_
                      refine g_goto (tgt := 49) fx dX11_stands_164 (by decide) ?_
                      refine g_kill 7 rfl ?_
                      first
                      | (exfalso; omega)
                      | exact gw_cg rfl (by rw [saL_s, saS, show ((k : Nat) : Int) + 1 = ((k + 1 : Nat) : Int) by omega]; (repeat first | rw [if_pos (by omega)] | rw [if_neg (by omega)]) <;> rfl) (ih (by omega))
                    · refine g_iconst fx dX11_stands_153 (by unfold okI; omega) ?_
                      refine g_goto (tgt := 158) fx dX11_stands_154 (by decide) ?_
                      refine g_iadd fx dX11_stands_158 ?_
                      refine g_istore fx dX11_stands_159 (by decide) rfl rfl ?_
                      refine g_iinc1 fx dX11_stands_161 (by decide) rfl rfl (by unfold okI; omega) rfl ?_
                      refine g_goto (tgt := 49) fx dX11_stands_164 (by decide) ?_
                      refine g_kill 7 rfl ?_
                      first
                      | (exfalso; omega)
                      | exact gw_cg rfl (by rw [saL_s, saS, show ((k : Nat) : Int) + 1 = ((k + 1 : Nat) : Int) by omega]; (repeat first | rw [if_pos (by omega)] | rw [if_neg (by omega)]) <;> rfl) (ih (by omega))
                · refine g_aload_n fx dX11_stands_116 rfl ?_
                  refine g_iload fx dX11_stands_117 rfl ?_
                  refine g_callVD fx dX11_stands_119 mv_RX11_273 my_X11_pounds (s_X11_pounds ad _ _ (by omega)) o_223 rfl rfl rfl (Nat.le_of_ble_eq_true rfl) (by decide) (by decide) ?_
                  refine g_goto (tgt := 126) fx dX11_stands_122 (by decide) ?_
                  refine g_iadd fx dX11_stands_126 ?_
                  refine g_istore fx dX11_stands_127 (by decide) rfl rfl ?_
                  refine g_iload fx dX11_stands_129 rfl ?_
                  refine g_aload_n fx dX11_stands_131 rfl ?_
                  refine g_getr fx dX11_stands_132 fk_RX11_60 o_223 rf_223_26 ?_
                  refine g_iload fx dX11_stands_135 rfl ?_
                  refine g_iald fx dX11_stands_137 o_239 (by omega) (by show _ < ((60 : Nat) : Int); omega) ?_
                  rw [show ((k : Nat) : Int).toNat = k from rfl]
                  refine g_iload_n fx dX11_stands_138 rfl ?_
                  refine g_icmp_gt (tgt := 157) fx dX11_stands_139 (by decide) (fun h139 => ?_) (fun h139 => ?_)
                  · refine g_iconst fx dX11_stands_157 (by unfold okI; omega) ?_
                    refine g_iadd fx dX11_stands_158 ?_
                    refine g_istore fx dX11_stands_159 (by decide) rfl rfl ?_
                    refine g_iinc1 fx dX11_stands_161 (by decide) rfl rfl (by unfold okI; omega) rfl ?_
                    refine g_goto (tgt := 49) fx dX11_stands_164 (by decide) ?_
                    refine g_kill 7 rfl ?_
                    first
                    | (exfalso; omega)
                    | exact gw_cg rfl (by rw [saL_s, saS, show ((k : Nat) : Int) + 1 = ((k + 1 : Nat) : Int) by omega]; (repeat first | rw [if_pos (by omega)] | rw [if_neg (by omega)]) <;> rfl) (ih (by omega))
                  · refine g_aload_n fx dX11_stands_142 rfl ?_
                    refine g_getr fx dX11_stands_143 fk_RX11_42 o_223 rf_223_20 ?_
                    refine g_iload fx dX11_stands_146 rfl ?_
                    refine g_iald fx dX11_stands_148 o_233 (by omega) (by show _ < ((60 : Nat) : Int); omega) ?_
                    rw [show ((k : Nat) : Int).toNat = k from rfl]
                    refine g_iload_n fx dX11_stands_149 rfl ?_
                    refine g_icmp_le (tgt := 157) fx dX11_stands_150 (by decide) (fun h150 => ?_) (fun h150 => ?_)
                    · refine g_iconst fx dX11_stands_157 (by unfold okI; omega) ?_
                      refine g_iadd fx dX11_stands_158 ?_
                      refine g_istore fx dX11_stands_159 (by decide) rfl rfl ?_
                      refine g_iinc1 fx dX11_stands_161 (by decide) rfl rfl (by unfold okI; omega) rfl ?_
                      refine g_goto (tgt := 49) fx dX11_stands_164 (by decide) ?_
                      refine g_kill 7 rfl ?_
                      first
                      | (exfalso; omega)
                      | exact gw_cg rfl (by rw [saL_s, saS, show ((k : Nat) : Int) + 1 = ((k + 1 : Nat) : Int) by omega]; (repeat first | rw [if_pos (by omega)] | rw [if_neg (by omega)]) <;> rfl) (ih (by omega))
                    · refine g_iconst fx dX11_stands_153 (by unfold okI; omega) ?_
                      refine g_goto (tgt := 158) fx dX11_stands_154 (by decide) ?_
                      refine g_iadd fx dX11_stands_158 ?_
                      refine g_istore fx dX11_stands_159 (by decide) rfl rfl ?_
                      refine g_iinc1 fx dX11_stands_161 (by decide) rfl rfl (by unfold okI; omega) rfl ?_
                      refine g_goto (tgt := 49) fx dX11_stands_164 (by decide) ?_
                      refine g_kill 7 rfl ?_
                      first
                      | (exfalso; omega)
                      | exact gw_cg rfl (by rw [saL_s, saS, show ((k : Nat) : Int) + 1 = ((k + 1 : Nat) : Int) by omega]; (repeat first | rw [if_pos (by omega)] | rw [if_neg (by omega)]) <;> rfl) (ih (by omega))
              · refine g_iconst fx dX11_stands_102 (by unfold okI; omega) ?_
                refine g_goto (tgt := 107) fx dX11_stands_103 (by decide) ?_
                refine g_iadd fx dX11_stands_107 ?_
                refine g_istore_n fx dX11_stands_108 (by decide) rfl rfl ?_
                refine g_iload fx dX11_stands_109 rfl ?_
                refine g_iload fx dX11_stands_111 rfl ?_
                refine g_if_eq (tgt := 125) fx dX11_stands_113 (by decide) (fun h113 => ?_) (fun h113 => ?_)
                · refine g_iconst fx dX11_stands_125 (by unfold okI; omega) ?_
                  refine g_iadd fx dX11_stands_126 ?_
                  refine g_istore fx dX11_stands_127 (by decide) rfl rfl ?_
                  refine g_iload fx dX11_stands_129 rfl ?_
                  refine g_aload_n fx dX11_stands_131 rfl ?_
                  refine g_getr fx dX11_stands_132 fk_RX11_60 o_223 rf_223_26 ?_
                  refine g_iload fx dX11_stands_135 rfl ?_
                  refine g_iald fx dX11_stands_137 o_239 (by omega) (by show _ < ((60 : Nat) : Int); omega) ?_
                  rw [show ((k : Nat) : Int).toNat = k from rfl]
                  refine g_iload_n fx dX11_stands_138 rfl ?_
                  refine g_icmp_gt (tgt := 157) fx dX11_stands_139 (by decide) (fun h139 => ?_) (fun h139 => ?_)
                  · refine g_iconst fx dX11_stands_157 (by unfold okI; omega) ?_
                    refine g_iadd fx dX11_stands_158 ?_
                    refine g_istore fx dX11_stands_159 (by decide) rfl rfl ?_
                    refine g_iinc1 fx dX11_stands_161 (by decide) rfl rfl (by unfold okI; omega) rfl ?_
                    refine g_goto (tgt := 49) fx dX11_stands_164 (by decide) ?_
                    refine g_kill 7 rfl ?_
                    first
                    | (exfalso; omega)
                    | exact gw_cg rfl (by rw [saL_s, saS, show ((k : Nat) : Int) + 1 = ((k + 1 : Nat) : Int) by omega]; (repeat first | rw [if_pos (by omega)] | rw [if_neg (by omega)]) <;> rfl) (ih (by omega))
                  · refine g_aload_n fx dX11_stands_142 rfl ?_
                    refine g_getr fx dX11_stands_143 fk_RX11_42 o_223 rf_223_20 ?_
                    refine g_iload fx dX11_stands_146 rfl ?_
                    refine g_iald fx dX11_stands_148 o_233 (by omega) (by show _ < ((60 : Nat) : Int); omega) ?_
                    rw [show ((k : Nat) : Int).toNat = k from rfl]
                    refine g_iload_n fx dX11_stands_149 rfl ?_
                    refine g_icmp_le (tgt := 157) fx dX11_stands_150 (by decide) (fun h150 => ?_) (fun h150 => ?_)
                    · refine g_iconst fx dX11_stands_157 (by unfold okI; omega) ?_
                      refine g_iadd fx dX11_stands_158 ?_
                      refine g_istore fx dX11_stands_159 (by decide) rfl rfl ?_
                      refine g_iinc1 fx dX11_stands_161 (by decide) rfl rfl (by unfold okI; omega) rfl ?_
                      refine g_goto (tgt := 49) fx dX11_stands_164 (by decide) ?_
                      refine g_kill 7 rfl ?_
                      first
                      | (exfalso; omega)
                      | exact gw_cg rfl (by rw [saL_s, saS, show ((k : Nat) : Int) + 1 = ((k + 1 : Nat) : Int) by omega]; (repeat first | rw [if_pos (by omega)] | rw [if_neg (by omega)]) <;> rfl) (ih (by omega))
                    · refine g_iconst fx dX11_stands_153 (by unfold okI; omega) ?_
                      refine g_goto (tgt := 158) fx dX11_stands_154 (by decide) ?_
                      refine g_iadd fx dX11_stands_158 ?_
                      refine g_istore fx dX11_stands_159 (by decide) rfl rfl ?_
                      refine g_iinc1 fx dX11_stands_161 (by decide) rfl rfl (by unfold okI; omega) rfl ?_
                      refine g_goto (tgt := 49) fx dX11_stands_164 (by decide) ?_
                      refine g_kill 7 rfl ?_
                      first
                      | (exfalso; omega)
                      | exact gw_cg rfl (by rw [saL_s, saS, show ((k : Nat) : Int) + 1 = ((k + 1 : Nat) : Int) by omega]; (repeat first | rw [if_pos (by omega)] | rw [if_neg (by omega)]) <;> rfl) (ih (by omega))
                · refine g_aload_n fx dX11_stands_116 rfl ?_
                  refine g_iload fx dX11_stands_117 rfl ?_
                  refine g_callVD fx dX11_stands_119 mv_RX11_273 my_X11_pounds (s_X11_pounds ad _ _ (by omega)) o_223 rfl rfl rfl (Nat.le_of_ble_eq_true rfl) (by decide) (by decide) ?_
                  refine g_goto (tgt := 126) fx dX11_stands_122 (by decide) ?_
                  refine g_iadd fx dX11_stands_126 ?_
                  refine g_istore fx dX11_stands_127 (by decide) rfl rfl ?_
                  refine g_iload fx dX11_stands_129 rfl ?_
                  refine g_aload_n fx dX11_stands_131 rfl ?_
                  refine g_getr fx dX11_stands_132 fk_RX11_60 o_223 rf_223_26 ?_
                  refine g_iload fx dX11_stands_135 rfl ?_
                  refine g_iald fx dX11_stands_137 o_239 (by omega) (by show _ < ((60 : Nat) : Int); omega) ?_
                  rw [show ((k : Nat) : Int).toNat = k from rfl]
                  refine g_iload_n fx dX11_stands_138 rfl ?_
                  refine g_icmp_gt (tgt := 157) fx dX11_stands_139 (by decide) (fun h139 => ?_) (fun h139 => ?_)
                  · refine g_iconst fx dX11_stands_157 (by unfold okI; omega) ?_
                    refine g_iadd fx dX11_stands_158 ?_
                    refine g_istore fx dX11_stands_159 (by decide) rfl rfl ?_
                    refine g_iinc1 fx dX11_stands_161 (by decide) rfl rfl (by unfold okI; omega) rfl ?_
                    refine g_goto (tgt := 49) fx dX11_stands_164 (by decide) ?_
                    refine g_kill 7 rfl ?_
                    first
                    | (exfalso; omega)
                    | exact gw_cg rfl (by rw [saL_s, saS, show ((k : Nat) : Int) + 1 = ((k + 1 : Nat) : Int) by omega]; (repeat first | rw [if_pos (by omega)] | rw [if_neg (by omega)]) <;> rfl) (ih (by omega))
                  · refine g_aload_n fx dX11_stands_142 rfl ?_
                    refine g_getr fx dX11_stands_143 fk_RX11_42 o_223 rf_223_20 ?_
                    refine g_iload fx dX11_stands_146 rfl ?_
                    refine g_iald fx dX11_stands_148 o_233 (by omega) (by show _ < ((60 : Nat) : Int); omega) ?_
                    rw [show ((k : Nat) : Int).toNat = k from rfl]
                    refine g_iload_n fx dX11_stands_149 rfl ?_
                    refine g_icmp_le (tgt := 157) fx dX11_stands_150 (by decide) (fun h150 => ?_) (fun h150 => ?_)
                    · refine g_iconst fx dX11_stands_157 (by unfold okI; omega) ?_
                      refine g_iadd fx dX11_stands_158 ?_
                      refine g_istore fx dX11_stands_159 (by decide) rfl rfl ?_
                      refine g_iinc1 fx dX11_stands_161 (by decide) rfl rfl (by unfold okI; omega) rfl ?_
                      refine g_goto (tgt := 49) fx dX11_stands_164 (by decide) ?_
                      refine g_kill 7 rfl ?_
                      first
                      | (exfalso; omega)
                      | exact gw_cg rfl (by rw [saL_s, saS, show ((k : Nat) : Int) + 1 = ((k + 1 : Nat) : Int) by omega]; (repeat first | rw [if_pos (by omega)] | rw [if_neg (by omega)]) <;> rfl) (ih (by omega))
                    · refine g_iconst fx dX11_stands_153 (by unfold okI; omega) ?_
                      refine g_goto (tgt := 158) fx dX11_stands_154 (by decide) ?_
                      refine g_iadd fx dX11_stands_158 ?_
                      refine g_istore fx dX11_stands_159 (by decide) rfl rfl ?_
                      refine g_iinc1 fx dX11_stands_161 (by decide) rfl rfl (by unfold okI; omega) rfl ?_
                      refine g_goto (tgt := 49) fx dX11_stands_164 (by decide) ?_
                      refine g_kill 7 rfl ?_
                      first
                      | (exfalso; omega)
                      | exact gw_cg rfl (by rw [saL_s, saS, show ((k : Nat) : Int) + 1 = ((k + 1 : Nat) : Int) by omega]; (repeat first | rw [if_pos (by omega)] | rw [if_neg (by omega)]) <;> rfl) (ih (by omega))
            · refine g_iconst fx dX11_stands_89 (by unfold okI; omega) ?_
              refine g_goto (tgt := 94) fx dX11_stands_90 (by decide) ?_
              refine g_istore fx dX11_stands_94 (by decide) rfl rfl ?_
              refine g_iload_n fx dX11_stands_96 rfl ?_
              refine g_iload fx dX11_stands_97 rfl ?_
              refine g_if_eq (tgt := 106) fx dX11_stands_99 (by decide) (fun h99 => ?_) (fun h99 => ?_)
              · refine g_iconst fx dX11_stands_106 (by unfold okI; omega) ?_
                refine g_iadd fx dX11_stands_107 ?_
                refine g_istore_n fx dX11_stands_108 (by decide) rfl rfl ?_
                refine g_iload fx dX11_stands_109 rfl ?_
                refine g_iload fx dX11_stands_111 rfl ?_
                refine g_if_eq (tgt := 125) fx dX11_stands_113 (by decide) (fun h113 => ?_) (fun h113 => ?_)
                · refine g_iconst fx dX11_stands_125 (by unfold okI; omega) ?_
                  refine g_iadd fx dX11_stands_126 ?_
                  refine g_istore fx dX11_stands_127 (by decide) rfl rfl ?_
                  refine g_iload fx dX11_stands_129 rfl ?_
                  refine g_aload_n fx dX11_stands_131 rfl ?_
                  refine g_getr fx dX11_stands_132 fk_RX11_60 o_223 rf_223_26 ?_
                  refine g_iload fx dX11_stands_135 rfl ?_
                  refine g_iald fx dX11_stands_137 o_239 (by omega) (by show _ < ((60 : Nat) : Int); omega) ?_
                  rw [show ((k : Nat) : Int).toNat = k from rfl]
                  refine g_iload_n fx dX11_stands_138 rfl ?_
                  refine g_icmp_gt (tgt := 157) fx dX11_stands_139 (by decide) (fun h139 => ?_) (fun h139 => ?_)
                  · refine g_iconst fx dX11_stands_157 (by unfold okI; omega) ?_
                    refine g_iadd fx dX11_stands_158 ?_
                    refine g_istore fx dX11_stands_159 (by decide) rfl rfl ?_
                    refine g_iinc1 fx dX11_stands_161 (by decide) rfl rfl (by unfold okI; omega) rfl ?_
                    refine g_goto (tgt := 49) fx dX11_stands_164 (by decide) ?_
                    refine g_kill 7 rfl ?_
                    first
                    | (exfalso; omega)
                    | exact gw_cg rfl (by rw [saL_s, saS, show ((k : Nat) : Int) + 1 = ((k + 1 : Nat) : Int) by omega]; (repeat first | rw [if_pos (by omega)] | rw [if_neg (by omega)]) <;> rfl) (ih (by omega))
                  · refine g_aload_n fx dX11_stands_142 rfl ?_
                    refine g_getr fx dX11_stands_143 fk_RX11_42 o_223 rf_223_20 ?_
                    refine g_iload fx dX11_stands_146 rfl ?_
                    refine g_iald fx dX11_stands_148 o_233 (by omega) (by show _ < ((60 : Nat) : Int); omega) ?_
                    rw [show ((k : Nat) : Int).toNat = k from rfl]
                    refine g_iload_n fx dX11_stands_149 rfl ?_
                    refine g_icmp_le (tgt := 157) fx dX11_stands_150 (by decide) (fun h150 => ?_) (fun h150 => ?_)
                    · refine g_iconst fx dX11_stands_157 (by unfold okI; omega) ?_
                      refine g_iadd fx dX11_stands_158 ?_
                      refine g_istore fx dX11_stands_159 (by decide) rfl rfl ?_
                      refine g_iinc1 fx dX11_stands_161 (by decide) rfl rfl (by unfold okI; omega) rfl ?_
                      refine g_goto (tgt := 49) fx dX11_stands_164 (by decide) ?_
                      refine g_kill 7 rfl ?_
                      first
                      | (exfalso; omega)
                      | exact gw_cg rfl (by rw [saL_s, saS, show ((k : Nat) : Int) + 1 = ((k + 1 : Nat) : Int) by omega]; (repeat first | rw [if_pos (by omega)] | rw [if_neg (by omega)]) <;> rfl) (ih (by omega))
                    · refine g_iconst fx dX11_stands_153 (by unfold okI; omega) ?_
                      refine g_goto (tgt := 158) fx dX11_stands_154 (by decide) ?_
                      refine g_iadd fx dX11_stands_158 ?_
                      refine g_istore fx dX11_stands_159 (by decide) rfl rfl ?_
                      refine g_iinc1 fx dX11_stands_161 (by decide) rfl rfl (by unfold okI; omega) rfl ?_
                      refine g_goto (tgt := 49) fx dX11_stands_164 (by decide) ?_
                      refine g_kill 7 rfl ?_
                      first
                      | (exfalso; omega)
                      | exact gw_cg rfl (by rw [saL_s, saS, show ((k : Nat) : Int) + 1 = ((k + 1 : Nat) : Int) by omega]; (repeat first | rw [if_pos (by omega)] | rw [if_neg (by omega)]) <;> rfl) (ih (by omega))
                · refine g_aload_n fx dX11_stands_116 rfl ?_
                  refine g_iload fx dX11_stands_117 rfl ?_
                  refine g_callVD fx dX11_stands_119 mv_RX11_273 my_X11_pounds (s_X11_pounds ad _ _ (by omega)) o_223 rfl rfl rfl (Nat.le_of_ble_eq_true rfl) (by decide) (by decide) ?_
                  refine g_goto (tgt := 126) fx dX11_stands_122 (by decide) ?_
                  refine g_iadd fx dX11_stands_126 ?_
                  refine g_istore fx dX11_stands_127 (by decide) rfl rfl ?_
                  refine g_iload fx dX11_stands_129 rfl ?_
                  refine g_aload_n fx dX11_stands_131 rfl ?_
                  refine g_getr fx dX11_stands_132 fk_RX11_60 o_223 rf_223_26 ?_
                  refine g_iload fx dX11_stands_135 rfl ?_
                  refine g_iald fx dX11_stands_137 o_239 (by omega) (by show _ < ((60 : Nat) : Int); omega) ?_
                  rw [show ((k : Nat) : Int).toNat = k from rfl]
                  refine g_iload_n fx dX11_stands_138 rfl ?_
                  refine g_icmp_gt (tgt := 157) fx dX11_stands_139 (by decide) (fun h139 => ?_) (fun h139 => ?_)
                  · refine g_iconst fx dX11_stands_157 (by unfold okI; omega) ?_
                    refine g_iadd fx dX11_stands_158 ?_
                    refine g_istore fx dX11_stands_159 (by decide) rfl rfl ?_
                    refine g_iinc1 fx dX11_stands_161 (by decide) rfl rfl (by unfold okI; omega) rfl ?_
                    refine g_goto (tgt := 49) fx dX11_stands_164 (by decide) ?_
                    refine g_kill 7 rfl ?_
                    first
                    | (exfalso; omega)
                    | exact gw_cg rfl (by rw [saL_s, saS, show ((k : Nat) : Int) + 1 = ((k + 1 : Nat) : Int) by omega]; (repeat first | rw [if_pos (by omega)] | rw [if_neg (by omega)]) <;> rfl) (ih (by omega))
                  · refine g_aload_n fx dX11_stands_142 rfl ?_
                    refine g_getr fx dX11_stands_143 fk_RX11_42 o_223 rf_223_20 ?_
                    refine g_iload fx dX11_stands_146 rfl ?_
                    refine g_iald fx dX11_stands_148 o_233 (by omega) (by show _ < ((60 : Nat) : Int); omega) ?_
                    rw [show ((k : Nat) : Int).toNat = k from rfl]
                    refine g_iload_n fx dX11_stands_149 rfl ?_
                    refine g_icmp_le (tgt := 157) fx dX11_stands_150 (by decide) (fun h150 => ?_) (fun h150 => ?_)
                    · refine g_iconst fx dX11_stands_157 (by unfold okI; omega) ?_
                      refine g_iadd fx dX11_stands_158 ?_
                      refine g_istore fx dX11_stands_159 (by decide) rfl rfl ?_
                      refine g_iinc1 fx dX11_stands_161 (by decide) rfl rfl (by unfold okI; omega) rfl ?_
                      refine g_goto (tgt := 49) fx dX11_stands_164 (by decide) ?_
                      refine g_kill 7 rfl ?_
                      first
                      | (exfalso; omega)
                      | exact gw_cg rfl (by rw [saL_s, saS, show ((k : Nat) : Int) + 1 = ((k + 1 : Nat) : Int) by omega]; (repeat first | rw [if_pos (by omega)] | rw [if_neg (by omega)]) <;> rfl) (ih (by omega))
                    · refine g_iconst fx dX11_stands_153 (by unfold okI; omega) ?_
                      refine g_goto (tgt := 158) fx dX11_stands_154 (by decide) ?_
                      refine g_iadd fx dX11_stands_158 ?_
                      refine g_istore fx dX11_stands_159 (by decide) rfl rfl ?_
                      refine g_iinc1 fx dX11_stands_161 (by decide) rfl rfl (by unfold okI; omega) rfl ?_
                      refine g_goto (tgt := 49) fx dX11_stands_164 (by decide) ?_
                      refine g_kill 7 rfl ?_
                      first
                      | (exfalso; omega)
                      | exact gw_cg rfl (by rw [saL_s, saS, show ((k : Nat) : Int) + 1 = ((k + 1 : Nat) : Int) by omega]; (repeat first | rw [if_pos (by omega)] | rw [if_neg (by omega)]) <;> rfl) (ih (by omega))
              · refine g_iconst fx dX11_stands_102 (by unfold okI; omega) ?_
                refine g_goto (tgt := 107) fx dX11_stands_103 (by decide) ?_
                refine g_iadd fx dX11_stands_107 ?_
                refine g_istore_n fx dX11_stands_108 (by decide) rfl rfl ?_
                refine g_iload fx dX11_stands_109 rfl ?_
                refine g_iload fx dX11_stands_111 rfl ?_
                refine g_if_eq (tgt := 125) fx dX11_stands_113 (by decide) (fun h113 => ?_) (fun h113 => ?_)
                · refine g_iconst fx dX11_stands_125 (by unfold okI; omega) ?_
                  refine g_iadd fx dX11_stands_126 ?_
                  refine g_istore fx dX11_stands_127 (by decide) rfl rfl ?_
                  refine g_iload fx dX11_stands_129 rfl ?_
                  refine g_aload_n fx dX11_stands_131 rfl ?_
                  refine g_getr fx dX11_stands_132 fk_RX11_60 o_223 rf_223_26 ?_
                  refine g_iload fx dX11_stands_135 rfl ?_
                  refine g_iald fx dX11_stands_137 o_239 (by omega) (by show _ < ((60 : Nat) : Int); omega) ?_
                  rw [show ((k : Nat) : Int).toNat = k from rfl]
                  refine g_iload_n fx dX11_stands_138 rfl ?_
                  refine g_icmp_gt (tgt := 157) fx dX11_stands_139 (by decide) (fun h139 => ?_) (fun h139 => ?_)
                  · refine g_iconst fx dX11_stands_157 (by unfold okI; omega) ?_
                    refine g_iadd fx dX11_stands_158 ?_
                    refine g_istore fx dX11_stands_159 (by decide) rfl rfl ?_
                    refine g_iinc1 fx dX11_stands_161 (by decide) rfl rfl (by unfold okI; omega) rfl ?_
                    refine g_goto (tgt := 49) fx dX11_stands_164 (by decide) ?_
                    refine g_kill 7 rfl ?_
                    first
                    | (exfalso; omega)
                    | exact gw_cg rfl (by rw [saL_s, saS, show ((k : Nat) : Int) + 1 = ((k + 1 : Nat) : Int) by omega]; (repeat first | rw [if_pos (by omega)] | rw [if_neg (by omega)]) <;> rfl) (ih (by omega))
                  · refine g_aload_n fx dX11_stands_142 rfl ?_
                    refine g_getr fx dX11_stands_143 fk_RX11_42 o_223 rf_223_20 ?_
                    refine g_iload fx dX11_stands_146 rfl ?_
                    refine g_iald fx dX11_stands_148 o_233 (by omega) (by show _ < ((60 : Nat) : Int); omega) ?_
                    rw [show ((k : Nat) : Int).toNat = k from rfl]
                    refine g_iload_n fx dX11_stands_149 rfl ?_
                    refine g_icmp_le (tgt := 157) fx dX11_stands_150 (by decide) (fun h150 => ?_) (fun h150 => ?_)
                    · refine g_iconst fx dX11_stands_157 (by unfold okI; omega) ?_
                      refine g_iadd fx dX11_stands_158 ?_
                      refine g_istore fx dX11_stands_159 (by decide) rfl rfl ?_
                      refine g_iinc1 fx dX11_stands_161 (by decide) rfl rfl (by unfold okI; omega) rfl ?_
                      refine g_goto (tgt := 49) fx dX11_stands_164 (by decide) ?_
                      refine g_kill 7 rfl ?_
                      first
                      | (exfalso; omega)
                      | exact gw_cg rfl (by rw [saL_s, saS, show ((k : Nat) : Int) + 1 = ((k + 1 : Nat) : Int) by omega]; (repeat first | rw [if_pos (by omega)] | rw [if_neg (by omega)]) <;> rfl) (ih (by omega))
                    · refine g_iconst fx dX11_stands_153 (by unfold okI; omega) ?_
                      refine g_goto (tgt := 158) fx dX11_stands_154 (by decide) ?_
                      refine g_iadd fx dX11_stands_158 ?_
                      refine g_istore fx dX11_stands_159 (by decide) rfl rfl ?_
                      refine g_iinc1 fx dX11_stands_161 (by decide) rfl rfl (by unfold okI; omega) rfl ?_
                      refine g_goto (tgt := 49) fx dX11_stands_164 (by decide) ?_
                      refine g_kill 7 rfl ?_
                      first
                      | (exfalso; omega)
                      | exact gw_cg rfl (by rw [saL_s, saS, show ((k : Nat) : Int) + 1 = ((k + 1 : Nat) : Int) by omega]; (repeat first | rw [if_pos (by omega)] | rw [if_neg (by omega)]) <;> rfl) (ih (by omega))
                · refine g_aload_n fx dX11_stands_116 rfl ?_
                  refine g_iload fx dX11_stands_117 rfl ?_
                  refine g_callVD fx dX11_stands_119 mv_RX11_273 my_X11_pounds (s_X11_pounds ad _ _ (by omega)) o_223 rfl rfl rfl (Nat.le_of_ble_eq_true rfl) (by decide) (by decide) ?_
                  refine g_goto (tgt := 126) fx dX11_stands_122 (by decide) ?_
                  refine g_iadd fx dX11_stands_126 ?_
                  refine g_istore fx dX11_stands_127 (by decide) rfl rfl ?_
                  refine g_iload fx dX11_stands_129 rfl ?_
                  refine g_aload_n fx dX11_stands_131 rfl ?_
                  refine g_getr fx dX11_stands_132 fk_RX11_60 o_223 rf_223_26 ?_
                  refine g_iload fx dX11_stands_135 rfl ?_
                  refine g_iald fx dX11_stands_137 o_239 (by omega) (by show _ < ((60 : Nat) : Int); omega) ?_
                  rw [show ((k : Nat) : Int).toNat = k from rfl]
                  refine g_iload_n fx dX11_stands_138 rfl ?_
                  refine g_icmp_gt (tgt := 157) fx dX11_stands_139 (by decide) (fun h139 => ?_) (fun h139 => ?_)
                  · refine g_iconst fx dX11_stands_157 (by unfold okI; omega) ?_
                    refine g_iadd fx dX11_stands_158 ?_
                    refine g_istore fx dX11_stands_159 (by decide) rfl rfl ?_
                    refine g_iinc1 fx dX11_stands_161 (by decide) rfl rfl (by unfold okI; omega) rfl ?_
                    refine g_goto (tgt := 49) fx dX11_stands_164 (by decide) ?_
                    refine g_kill 7 rfl ?_
                    first
                    | (exfalso; omega)
                    | exact gw_cg rfl (by rw [saL_s, saS, show ((k : Nat) : Int) + 1 = ((k + 1 : Nat) : Int) by omega]; (repeat first | rw [if_pos (by omega)] | rw [if_neg (by omega)]) <;> rfl) (ih (by omega))
                  · refine g_aload_n fx dX11_stands_142 rfl ?_
                    refine g_getr fx dX11_stands_143 fk_RX11_42 o_223 rf_223_20 ?_
                    refine g_iload fx dX11_stands_146 rfl ?_
                    refine g_iald fx dX11_stands_148 o_233 (by omega) (by show _ < ((60 : Nat) : Int); omega) ?_
                    rw [show ((k : Nat) : Int).toNat = k from rfl]
                    refine g_iload_n fx dX11_stands_149 rfl ?_
                    refine g_icmp_le (tgt := 157) fx dX11_stands_150 (by decide) (fun h150 => ?_) (fun h150 => ?_)
                    · refine g_iconst fx dX11_stands_157 (by unfold okI; omega) ?_
                      refine g_iadd fx dX11_stands_158 ?_
                      refine g_istore fx dX11_stands_159 (by decide) rfl rfl ?_
                      refine g_iinc1 fx dX11_stands_161 (by decide) rfl rfl (by unfold okI; omega) rfl ?_
                      refine g_goto (tgt := 49) fx dX11_stands_164 (by decide) ?_
                      refine g_kill 7 rfl ?_
                      first
                      | (exfalso; omega)
                      | exact gw_cg rfl (by rw [saL_s, saS, show ((k : Nat) : Int) + 1 = ((k + 1 : Nat) : Int) by omega]; (repeat first | rw [if_pos (by omega)] | rw [if_neg (by omega)]) <;> rfl) (ih (by omega))
                    · refine g_iconst fx dX11_stands_153 (by unfold okI; omega) ?_
                      refine g_goto (tgt := 158) fx dX11_stands_154 (by decide) ?_
                      refine g_iadd fx dX11_stands_158 ?_
                      refine g_istore fx dX11_stands_159 (by decide) rfl rfl ?_
                      refine g_iinc1 fx dX11_stands_161 (by decide) rfl rfl (by unfold okI; omega) rfl ?_
                      refine g_goto (tgt := 49) fx dX11_stands_164 (by decide) ?_
                      refine g_kill 7 rfl ?_
                      first
                      | (exfalso; omega)
                      | exact gw_cg rfl (by rw [saL_s, saS, show ((k : Nat) : Int) + 1 = ((k + 1 : Nat) : Int) by omega]; (repeat first | rw [if_pos (by omega)] | rw [if_neg (by omega)]) <;> rfl) (ih (by omega))
      exact loop49 0 (Nat.zero_le _)
    · refine g_iconst fx dX11_stands_32 (by unfold okI; omega) ?_
      exact g_iret fx rfl dX11_stands_33 (by decide) (by decide) (gw_le.rf _) ⟨by rw [nSta, if_pos (by omega)], rfl, by rw [nSta, if_pos (by omega)]⟩
  refine g_aload_n fx dX11_stands_0 rfl ?_
  refine g_iload_n fx dX11_stands_1 rfl ?_
  refine g_if_lt (tgt := 21) fx dX11_stands_2 (by decide) (fun h2 => ?_) (fun h2 => ?_)
  · refine g_iconst fx dX11_stands_21 (by unfold okI; omega) ?_
    exact gw_cgt rfl (by rw [saV]; (repeat first | rw [if_pos (by omega)] | rw [if_neg (by omega)]) <;> rfl) j22
  · refine g_iload_n fx dX11_stands_5 rfl ?_
    refine g_i2l fx dX11_stands_6 ?_
    refine g_lconst0 fx dX11_stands_7 ?_
    refine g_ldcL fx dX11_stands_8 kc_RX11_338 (by unfold okJ; omega) ?_
    refine g_callSD fx dX11_stands_11 ms_RX11_147 my_X11_within (s_X11_within ad _ _ _ _) rfl rfl (Nat.le_of_ble_eq_true rfl) (by decide) (by decide) ?_
    refine g_if_eq (tgt := 21) fx dX11_stands_14 (by decide) (fun h14 => ?_) (fun h14 => ?_)
    · refine g_iconst fx dX11_stands_21 (by unfold okI; omega) ?_
      exact gw_cgt rfl (by rw [saV]; (repeat first | rw [if_pos (by omega)] | rw [if_neg (by omega)]) <;> rfl) j22
    · refine g_iconst fx dX11_stands_17 (by unfold okI; omega) ?_
      refine g_goto (tgt := 22) fx dX11_stands_18 (by decide) ?_
      exact gw_cgt rfl (by rw [saV]; (repeat first | rw [if_pos (by omega)] | rw [if_neg (by omega)]) <;> rfl) j22
