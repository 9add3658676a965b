/-! ===== the law: each of its calls, its loop ===== -/
set_option maxRecDepth 100000 in
set_option maxHeartbeats 4000000 in
theorem law_0 {K : AbK} {kc ks : Nat} {S : List AbS} {M : AbM} {L : Nat} {xs : Nat → Int32} {i : Int} {a : St} (C : Cx K code RL room_1) (hz : kX K 64 L xs) (hroom : kc ≤ room_1.cells ∧ ks ≤ room_1.slots) (hW : WL S 0 1 5 7 8 10 12 15 18 25 32 36 37 39 41 43 45) (hB : shMo S 45) (i0 : 0 ≤ i) (i1 : i + 6 ≤ L) (hL : L ≤ 3072) (hC : CRel a M 0 1 5 8 12 15 18 25 37 39 41 43) (hM : MRel a M 45) (nx : ∀ (M2 : AbM) (a2 : St), CRel a2 M2 0 1 5 8 12 15 18 25 37 39 41 43 → MRel a2 M2 45 → AJc K kc ks S 896 [vP 64, vP 0, vP 45, vI i] [] M2) : AJc K kc ks S 144 [vP 64, vP 0, vP 45, vI i] [] M := by
  have hk0 := hW.1.1
  have hk9 := hB.1
  refine ac_aload_n C dL_law_144 rfl rfl ?_
  refine ac_aload_n C dL_law_145 rfl rfl ?_
  refine ac_iload_n C dL_law_146 rfl rfl ?_
  refine ac_iconst C dL_law_147 (by decide) ?_
  refine ac_iadd C dL_law_148 (by omega) ?_
  refine ac_sld C hz (by omega) (by omega) dL_law_149 ?_
  refine ac_aload_n C dL_law_150 rfl rfl ?_
  refine ac_iload_n C dL_law_151 rfl rfl ?_
  refine ac_iconst C dL_law_152 (by decide) ?_
  refine ac_iadd C dL_law_153 (by omega) ?_
  refine ac_sld C hz (by omega) (by omega) dL_law_154 ?_
  refine ac_callV C cl_RL_13 (m_X8_begin hW hC) (by decide) rfl hk0 rfl rfl (Nat.le_of_ble_eq_true rfl) hroom dL_law_155 (ac_kI (fun r1 M1 h1 => ?_))
  obtain ⟨hl1, b1, ho1, hC1⟩ := h1
  have hM1 := hM.lo hl1
  refine ac_aload_n C dL_law_158 rfl rfl ?_
  refine ac_aload_n C dL_law_159 rfl rfl ?_
  refine ac_iload_n C dL_law_160 rfl rfl ?_
  refine ac_iconst C dL_law_161 (by decide) ?_
  refine ac_iadd C dL_law_162 (by omega) ?_
  refine ac_sld C hz (by omega) (by omega) dL_law_163 ?_
  refine ac_aload_n C dL_law_164 rfl rfl ?_
  refine ac_iload_n C dL_law_165 rfl rfl ?_
  refine ac_iconst C dL_law_166 (by decide) ?_
  refine ac_iadd C dL_law_167 (by omega) ?_
  refine ac_sld C hz (by omega) (by omega) dL_law_168 ?_
  refine ac_callV C cl_RL_17 (m_X9_begin hB hM1) (by decide) rfl hk9 rfl rfl (Nat.le_of_ble_eq_true rfl) hroom dL_law_169 (ac_kI (fun r2 M2 h2 => ?_))
  obtain ⟨hs2, b2, ho2, hM2⟩ := h2
  have e2 : ∀ q, q < 45 → M2 q = M1 q := fun q hq => hs2 q (by simp; omega)
  refine ac_icmp_eq (tgt := 896) C dL_law_172 rfl (fun hq => ?_) (fun hq => ?_)
  · exact nx M2 b1 (hC1.hi hW e2) ((oBegin_un ho1 ho2).2 M2 45 hM2)
  · exact absurd (oBegin_un ho1 ho2).1 hq
set_option maxRecDepth 100000 in
set_option maxHeartbeats 4000000 in
theorem law_1 {K : AbK} {kc ks : Nat} {S : List AbS} {M : AbM} {L : Nat} {xs : Nat → Int32} {i : Int} {a : St} (C : Cx K code RL room_1) (hz : kX K 64 L xs) (hroom : kc ≤ room_1.cells ∧ ks ≤ room_1.slots) (hW : WL S 0 1 5 7 8 10 12 15 18 25 32 36 37 39 41 43 45) (hB : shMo S 45) (i0 : 0 ≤ i) (i1 : i + 6 ≤ L) (hL : L ≤ 3072) (hC : CRel a M 0 1 5 8 12 15 18 25 37 39 41 43) (hM : MRel a M 45) (nx : ∀ (M2 : AbM) (a2 : St), CRel a2 M2 0 1 5 8 12 15 18 25 37 39 41 43 → MRel a2 M2 45 → AJc K kc ks S 896 [vP 64, vP 0, vP 45, vI i] [] M2) : AJc K kc ks S 177 [vP 64, vP 0, vP 45, vI i] [] M := by
  have hk0 := hW.1.1
  have hk9 := hB.1
  refine ac_aload_n C dL_law_177 rfl rfl ?_
  refine ac_aload_n C dL_law_178 rfl rfl ?_
  refine ac_iload_n C dL_law_179 rfl rfl ?_
  refine ac_iconst C dL_law_180 (by decide) ?_
  refine ac_iadd C dL_law_181 (by omega) ?_
  refine ac_sld C hz (by omega) (by omega) dL_law_182 ?_
  refine ac_i2l C dL_law_183 ?_
  refine ac_bipush C dL_law_184 (by decide) (by decide +kernel) ?_
  refine ac_lshl (z := lwA (xs (i + 1).toNat).toInt) C dL_law_186 (in64 _) (by unfold lwA; rw [Int64.ofInt_toInt]) ?_
  refine ac_aload_n C dL_law_187 rfl rfl ?_
  refine ac_iload_n C dL_law_188 rfl rfl ?_
  refine ac_iconst C dL_law_189 (by decide) ?_
  refine ac_iadd C dL_law_190 (by omega) ?_
  refine ac_sld C hz (by omega) (by omega) dL_law_191 ?_
  refine ac_i2l C dL_law_192 ?_
  refine ac_ldc2 (n := 4294967295) C gw800 dL_law_193 (by decide) (by decide +kernel) ?_
  refine ac_land (z := lwB (xs (i + 2).toNat).toInt) C dL_law_196 (in64 _) (by unfold lwB; rw [Int64.ofInt_toInt]) ?_
  refine ac_lor (z := lwC (xs (i + 1).toNat).toInt (xs (i + 2).toNat).toInt) C dL_law_197 (in64 _) (by unfold lwC; rw [Int64.ofInt_toInt]) ?_
  refine ac_aload_n C dL_law_198 rfl rfl ?_
  refine ac_iload_n C dL_law_199 rfl rfl ?_
  refine ac_iconst C dL_law_200 (by decide) ?_
  refine ac_iadd C dL_law_201 (by omega) ?_
  refine ac_sld C hz (by omega) (by omega) dL_law_202 ?_
  refine ac_callV C cl_RL_20 (m_X8_type hW hC) (by decide) rfl hk0 rfl rfl (Nat.le_of_ble_eq_true rfl) hroom dL_law_203 (ac_kI (fun r1 M1 h1 => ?_))
  obtain ⟨hl1, b1, ho1, hC1⟩ := h1
  have hM1 := hM.lo hl1
  refine ac_aload_n C dL_law_206 rfl rfl ?_
  refine ac_aload_n C dL_law_207 rfl rfl ?_
  refine ac_iload_n C dL_law_208 rfl rfl ?_
  refine ac_iconst C dL_law_209 (by decide) ?_
  refine ac_iadd C dL_law_210 (by omega) ?_
  refine ac_sld C hz (by omega) (by omega) dL_law_211 ?_
  refine ac_i2l C dL_law_212 ?_
  refine ac_bipush C dL_law_213 (by decide) (by decide +kernel) ?_
  refine ac_lshl (z := lwA (xs (i + 1).toNat).toInt) C dL_law_215 (in64 _) (by unfold lwA; rw [Int64.ofInt_toInt]) ?_
  refine ac_aload_n C dL_law_216 rfl rfl ?_
  refine ac_iload_n C dL_law_217 rfl rfl ?_
  refine ac_iconst C dL_law_218 (by decide) ?_
  refine ac_iadd C dL_law_219 (by omega) ?_
  refine ac_sld C hz (by omega) (by omega) dL_law_220 ?_
  refine ac_i2l C dL_law_221 ?_
  refine ac_ldc2 (n := 4294967295) C gw800 dL_law_222 (by decide) (by decide +kernel) ?_
  refine ac_land (z := lwB (xs (i + 2).toNat).toInt) C dL_law_225 (in64 _) (by unfold lwB; rw [Int64.ofInt_toInt]) ?_
  refine ac_lor (z := lwC (xs (i + 1).toNat).toInt (xs (i + 2).toNat).toInt) C dL_law_226 (in64 _) (by unfold lwC; rw [Int64.ofInt_toInt]) ?_
  refine ac_aload_n C dL_law_227 rfl rfl ?_
  refine ac_iload_n C dL_law_228 rfl rfl ?_
  refine ac_iconst C dL_law_229 (by decide) ?_
  refine ac_iadd C dL_law_230 (by omega) ?_
  refine ac_sld C hz (by omega) (by omega) dL_law_231 ?_
  refine ac_callV C cl_RL_24 (m_X9_type hB hM1) (by decide) rfl hk9 rfl rfl (Nat.le_of_ble_eq_true rfl) hroom dL_law_232 (ac_kI (fun r2 M2 h2 => ?_))
  obtain ⟨hs2, b2, ho2, hM2⟩ := h2
  have e2 : ∀ q, q < 45 → M2 q = M1 q := fun q hq => hs2 q (by simp; omega)
  refine ac_icmp_eq (tgt := 896) C dL_law_235 rfl (fun hq => ?_) (fun hq => ?_)
  · exact nx M2 b1 (hC1.hi hW e2) ((oType_un ho1 ho2).2 M2 45 hM2)
  · exact absurd (oType_un ho1 ho2).1 hq
set_option maxRecDepth 100000 in
set_option maxHeartbeats 4000000 in
theorem law_2 {K : AbK} {kc ks : Nat} {S : List AbS} {M : AbM} {L : Nat} {xs : Nat → Int32} {i : Int} {a : St} (C : Cx K code RL room_1) (hz : kX K 64 L xs) (hroom : kc ≤ room_1.cells ∧ ks ≤ room_1.slots) (hW : WL S 0 1 5 7 8 10 12 15 18 25 32 36 37 39 41 43 45) (hB : shMo S 45) (i0 : 0 ≤ i) (i1 : i + 6 ≤ L) (hL : L ≤ 3072) (hC : CRel a M 0 1 5 8 12 15 18 25 37 39 41 43) (hM : MRel a M 45) (nx : ∀ (M2 : AbM) (a2 : St), CRel a2 M2 0 1 5 8 12 15 18 25 37 39 41 43 → MRel a2 M2 45 → AJc K kc ks S 896 [vP 64, vP 0, vP 45, vI i] [] M2) : AJc K kc ks S 240 [vP 64, vP 0, vP 45, vI i] [] M := by
  have hk0 := hW.1.1
  have hk9 := hB.1
  refine ac_aload_n C dL_law_240 rfl rfl ?_
  refine ac_callV C cl_RL_25 (m_X8_law hW hC) (by decide) rfl hk0 rfl rfl (Nat.le_of_ble_eq_true rfl) hroom dL_law_241 (ac_kI (fun r1 M1 h1 => ?_))
  obtain ⟨hl1, b1, ho1, hC1⟩ := h1
  have hM1 := hM.lo hl1
  refine ac_aload_n C dL_law_244 rfl rfl ?_
  refine ac_callV C cl_RL_29 (m_X9_law hB hM1) (by decide) rfl hk9 rfl rfl (Nat.le_of_ble_eq_true rfl) hroom dL_law_245 (ac_kI (fun r2 M2 h2 => ?_))
  obtain ⟨hs2, b2, ho2, hM2⟩ := h2
  have e2 : ∀ q, q < 45 → M2 q = M1 q := fun q hq => hs2 q (by simp; omega)
  refine ac_icmp_eq (tgt := 896) C dL_law_248 rfl (fun hq => ?_) (fun hq => ?_)
  · exact nx M2 b1 (hC1.hi hW e2) ((oLaw_un ho1 ho2).2 M2 45 hM2)
  · exact absurd (oLaw_un ho1 ho2).1 hq
set_option maxRecDepth 100000 in
set_option maxHeartbeats 4000000 in
theorem law_3 {K : AbK} {kc ks : Nat} {S : List AbS} {M : AbM} {L : Nat} {xs : Nat → Int32} {i : Int} {a : St} (C : Cx K code RL room_1) (hz : kX K 64 L xs) (hroom : kc ≤ room_1.cells ∧ ks ≤ room_1.slots) (hW : WL S 0 1 5 7 8 10 12 15 18 25 32 36 37 39 41 43 45) (hB : shMo S 45) (i0 : 0 ≤ i) (i1 : i + 6 ≤ L) (hL : L ≤ 3072) (hC : CRel a M 0 1 5 8 12 15 18 25 37 39 41 43) (hM : MRel a M 45) (nx : ∀ (M2 : AbM) (a2 : St), CRel a2 M2 0 1 5 8 12 15 18 25 37 39 41 43 → MRel a2 M2 45 → AJc K kc ks S 896 [vP 64, vP 0, vP 45, vI i] [] M2) : AJc K kc ks S 253 [vP 64, vP 0, vP 45, vI i] [] M := by
  have hk0 := hW.1.1
  have hk9 := hB.1
  refine ac_aload_n C dL_law_253 rfl rfl ?_
  refine ac_callV C cl_RL_30 (m_X8_unlaw hW hC) (by decide) rfl hk0 rfl rfl (Nat.le_of_ble_eq_true rfl) hroom dL_law_254 (ac_kI (fun r1 M1 h1 => ?_))
  obtain ⟨hl1, b1, ho1, hC1⟩ := h1
  have hM1 := hM.lo hl1
  refine ac_aload_n C dL_law_257 rfl rfl ?_
  refine ac_callV C cl_RL_33 (m_X9_unlaw hB hM1) (by decide) rfl hk9 rfl rfl (Nat.le_of_ble_eq_true rfl) hroom dL_law_258 (ac_kI (fun r2 M2 h2 => ?_))
  obtain ⟨hs2, b2, ho2, hM2⟩ := h2
  have e2 : ∀ q, q < 45 → M2 q = M1 q := fun q hq => hs2 q (by simp; omega)
  refine ac_icmp_eq (tgt := 896) C dL_law_261 rfl (fun hq => ?_) (fun hq => ?_)
  · exact nx M2 b1 (hC1.hi hW e2) ((oUnlaw_un ho1 ho2).2 M2 45 hM2)
  · exact absurd (oUnlaw_un ho1 ho2).1 hq
set_option maxRecDepth 100000 in
set_option maxHeartbeats 4000000 in
theorem law_4 {K : AbK} {kc ks : Nat} {S : List AbS} {M : AbM} {L : Nat} {xs : Nat → Int32} {i : Int} {a : St} (C : Cx K code RL room_1) (hz : kX K 64 L xs) (hroom : kc ≤ room_1.cells ∧ ks ≤ room_1.slots) (hW : WL S 0 1 5 7 8 10 12 15 18 25 32 36 37 39 41 43 45) (hB : shMo S 45) (i0 : 0 ≤ i) (i1 : i + 6 ≤ L) (hL : L ≤ 3072) (hC : CRel a M 0 1 5 8 12 15 18 25 37 39 41 43) (hM : MRel a M 45) (nx : ∀ (M2 : AbM) (a2 : St), CRel a2 M2 0 1 5 8 12 15 18 25 37 39 41 43 → MRel a2 M2 45 → AJc K kc ks S 896 [vP 64, vP 0, vP 45, vI i] [] M2) : AJc K kc ks S 266 [vP 64, vP 0, vP 45, vI i] [] M := by
  have hk0 := hW.1.1
  have hk9 := hB.1
  refine ac_aload_n C dL_law_266 rfl rfl ?_
  refine ac_aload_n C dL_law_267 rfl rfl ?_
  refine ac_iload_n C dL_law_268 rfl rfl ?_
  refine ac_iconst C dL_law_269 (by decide) ?_
  refine ac_iadd C dL_law_270 (by omega) ?_
  refine ac_sld C hz (by omega) (by omega) dL_law_271 ?_
  refine ac_aload_n C dL_law_272 rfl rfl ?_
  refine ac_iload_n C dL_law_273 rfl rfl ?_
  refine ac_iconst C dL_law_274 (by decide) ?_
  refine ac_iadd C dL_law_275 (by omega) ?_
  refine ac_sld C hz (by omega) (by omega) dL_law_276 ?_
  refine ac_callV C cl_RL_34 (m_X8_told hW hC) (by decide) rfl hk0 rfl rfl (Nat.le_of_ble_eq_true rfl) hroom dL_law_277 (ac_kI (fun r1 M1 h1 => ?_))
  obtain ⟨hl1, hC1, hq1⟩ := h1
  have hM1 := hM.lo hl1
  refine ac_aload_n C dL_law_280 rfl rfl ?_
  refine ac_aload_n C dL_law_281 rfl rfl ?_
  refine ac_iload_n C dL_law_282 rfl rfl ?_
  refine ac_iconst C dL_law_283 (by decide) ?_
  refine ac_iadd C dL_law_284 (by omega) ?_
  refine ac_sld C hz (by omega) (by omega) dL_law_285 ?_
  refine ac_aload_n C dL_law_286 rfl rfl ?_
  refine ac_iload_n C dL_law_287 rfl rfl ?_
  refine ac_iconst C dL_law_288 (by decide) ?_
  refine ac_iadd C dL_law_289 (by omega) ?_
  refine ac_sld C hz (by omega) (by omega) dL_law_290 ?_
  refine ac_callV C cl_RL_37 (m_X9_told hB hM1) (by decide) rfl hk9 rfl rfl (Nat.le_of_ble_eq_true rfl) hroom dL_law_291 (ac_kI (fun r2 M2 h2 => ?_))
  obtain ⟨rfl, hq2⟩ := h2
  refine ac_icmp_eq (tgt := 896) C dL_law_294 rfl (fun hq => ?_) (fun hq => ?_)
  · exact nx M1 a hC1 hM1
  · exact absurd (hq1.trans hq2) hq
set_option maxRecDepth 100000 in
set_option maxHeartbeats 4000000 in
theorem law_5 {K : AbK} {kc ks : Nat} {S : List AbS} {M : AbM} {L : Nat} {xs : Nat → Int32} {i : Int} {a : St} (C : Cx K code RL room_1) (hz : kX K 64 L xs) (hroom : kc ≤ room_1.cells ∧ ks ≤ room_1.slots) (hW : WL S 0 1 5 7 8 10 12 15 18 25 32 36 37 39 41 43 45) (hB : shMo S 45) (i0 : 0 ≤ i) (i1 : i + 6 ≤ L) (hL : L ≤ 3072) (hC : CRel a M 0 1 5 8 12 15 18 25 37 39 41 43) (hM : MRel a M 45) (nx : ∀ (M2 : AbM) (a2 : St), CRel a2 M2 0 1 5 8 12 15 18 25 37 39 41 43 → MRel a2 M2 45 → AJc K kc ks S 896 [vP 64, vP 0, vP 45, vI i] [] M2) : AJc K kc ks S 299 [vP 64, vP 0, vP 45, vI i] [] M := by
  have hk0 := hW.1.1
  have hk9 := hB.1
  refine ac_aload_n C dL_law_299 rfl rfl ?_
  refine ac_aload_n C dL_law_300 rfl rfl ?_
  refine ac_iload_n C dL_law_301 rfl rfl ?_
  refine ac_iconst C dL_law_302 (by decide) ?_
  refine ac_iadd C dL_law_303 (by omega) ?_
  refine ac_sld C hz (by omega) (by omega) dL_law_304 ?_
  refine ac_callV C cl_RL_38 (m_X8_count hW hC) (by decide) rfl hk0 rfl rfl (Nat.le_of_ble_eq_true rfl) hroom dL_law_305 (ac_kI (fun r1 M1 h1 => ?_))
  obtain ⟨hl1, hC1, hq1⟩ := h1
  have hM1 := hM.lo hl1
  refine ac_aload_n C dL_law_308 rfl rfl ?_
  refine ac_aload_n C dL_law_309 rfl rfl ?_
  refine ac_iload_n C dL_law_310 rfl rfl ?_
  refine ac_iconst C dL_law_311 (by decide) ?_
  refine ac_iadd C dL_law_312 (by omega) ?_
  refine ac_sld C hz (by omega) (by omega) dL_law_313 ?_
  refine ac_callV C cl_RL_42 (w_X9_count hB hM1) (by decide) rfl hk9 rfl rfl (Nat.le_of_ble_eq_true rfl) hroom dL_law_314 (ac_kI (fun r2 M2 h2 => ?_))
  obtain ⟨hs2, hM2, hq2⟩ := h2
  have e2 : ∀ q, q < 45 → M2 q = M1 q := fun q hq => hs2 q (by simp; omega)
  refine ac_icmp_eq (tgt := 896) C dL_law_317 rfl (fun hq => ?_) (fun hq => ?_)
  · exact nx M2 a (hC1.hi hW e2) hM2
  · exact absurd (hq1.trans hq2.symm) hq
set_option maxRecDepth 100000 in
set_option maxHeartbeats 4000000 in
theorem law_6 {K : AbK} {kc ks : Nat} {S : List AbS} {M : AbM} {L : Nat} {xs : Nat → Int32} {i : Int} {a : St} (C : Cx K code RL room_1) (hz : kX K 64 L xs) (hroom : kc ≤ room_1.cells ∧ ks ≤ room_1.slots) (hW : WL S 0 1 5 7 8 10 12 15 18 25 32 36 37 39 41 43 45) (hB : shMo S 45) (i0 : 0 ≤ i) (i1 : i + 6 ≤ L) (hL : L ≤ 3072) (hC : CRel a M 0 1 5 8 12 15 18 25 37 39 41 43) (hM : MRel a M 45) (nx : ∀ (M2 : AbM) (a2 : St), CRel a2 M2 0 1 5 8 12 15 18 25 37 39 41 43 → MRel a2 M2 45 → AJc K kc ks S 896 [vP 64, vP 0, vP 45, vI i] [] M2) : AJc K kc ks S 322 [vP 64, vP 0, vP 45, vI i] [] M := by
  have hk0 := hW.1.1
  have hk9 := hB.1
  refine ac_aload_n C dL_law_322 rfl rfl ?_
  refine ac_aload_n C dL_law_323 rfl rfl ?_
  refine ac_iload_n C dL_law_324 rfl rfl ?_
  refine ac_iconst C dL_law_325 (by decide) ?_
  refine ac_iadd C dL_law_326 (by omega) ?_
  refine ac_sld C hz (by omega) (by omega) dL_law_327 ?_
  refine ac_callV C cl_RL_43 (m_X8_normal hW hC) (by decide) rfl hk0 rfl rfl (Nat.le_of_ble_eq_true rfl) hroom dL_law_328 (ac_kI (fun r1 M1 h1 => ?_))
  obtain ⟨hl1, hC1, hq1⟩ := h1
  have hM1 := hM.lo hl1
  refine ac_aload_n C dL_law_331 rfl rfl ?_
  refine ac_aload_n C dL_law_332 rfl rfl ?_
  refine ac_iload_n C dL_law_333 rfl rfl ?_
  refine ac_iconst C dL_law_334 (by decide) ?_
  refine ac_iadd C dL_law_335 (by omega) ?_
  refine ac_sld C hz (by omega) (by omega) dL_law_336 ?_
  refine ac_callV C cl_RL_46 (w_X9_normal hB hM1) (by decide) rfl hk9 rfl rfl (Nat.le_of_ble_eq_true rfl) hroom dL_law_337 (ac_kI (fun r2 M2 h2 => ?_))
  obtain ⟨hs2, hM2, hq2⟩ := h2
  have e2 : ∀ q, q < 45 → M2 q = M1 q := fun q hq => hs2 q (by simp; omega)
  refine ac_icmp_eq (tgt := 896) C dL_law_340 rfl (fun hq => ?_) (fun hq => ?_)
  · exact nx M2 a (hC1.hi hW e2) hM2
  · exact absurd (hq1.trans hq2.symm) hq
set_option maxRecDepth 100000 in
set_option maxHeartbeats 4000000 in
theorem law_7 {K : AbK} {kc ks : Nat} {S : List AbS} {M : AbM} {L : Nat} {xs : Nat → Int32} {i : Int} {a : St} (C : Cx K code RL room_1) (hz : kX K 64 L xs) (hroom : kc ≤ room_1.cells ∧ ks ≤ room_1.slots) (hW : WL S 0 1 5 7 8 10 12 15 18 25 32 36 37 39 41 43 45) (hB : shMo S 45) (i0 : 0 ≤ i) (i1 : i + 6 ≤ L) (hL : L ≤ 3072) (hC : CRel a M 0 1 5 8 12 15 18 25 37 39 41 43) (hM : MRel a M 45) (nx : ∀ (M2 : AbM) (a2 : St), CRel a2 M2 0 1 5 8 12 15 18 25 37 39 41 43 → MRel a2 M2 45 → AJc K kc ks S 896 [vP 64, vP 0, vP 45, vI i] [] M2) : AJc K kc ks S 345 [vP 64, vP 0, vP 45, vI i] [] M := by
  have hk0 := hW.1.1
  have hk9 := hB.1
  refine ac_aload_n C dL_law_345 rfl rfl ?_
  refine ac_aload_n C dL_law_346 rfl rfl ?_
  refine ac_iload_n C dL_law_347 rfl rfl ?_
  refine ac_iconst C dL_law_348 (by decide) ?_
  refine ac_iadd C dL_law_349 (by omega) ?_
  refine ac_sld C hz (by omega) (by omega) dL_law_350 ?_
  refine ac_aload_n C dL_law_351 rfl rfl ?_
  refine ac_iload_n C dL_law_352 rfl rfl ?_
  refine ac_iconst C dL_law_353 (by decide) ?_
  refine ac_iadd C dL_law_354 (by omega) ?_
  refine ac_sld C hz (by omega) (by omega) dL_law_355 ?_
  refine ac_callV C cl_RL_47 (m_X8_leads hW hC) (by decide) rfl hk0 rfl rfl (Nat.le_of_ble_eq_true rfl) hroom dL_law_356 (ac_kI (fun r1 M1 h1 => ?_))
  obtain ⟨hl1, hC1, hq1⟩ := h1
  have hM1 := hM.lo hl1
  refine ac_aload_n C dL_law_359 rfl rfl ?_
  refine ac_aload_n C dL_law_360 rfl rfl ?_
  refine ac_iload_n C dL_law_361 rfl rfl ?_
  refine ac_iconst C dL_law_362 (by decide) ?_
  refine ac_iadd C dL_law_363 (by omega) ?_
  refine ac_sld C hz (by omega) (by omega) dL_law_364 ?_
  refine ac_aload_n C dL_law_365 rfl rfl ?_
  refine ac_iload_n C dL_law_366 rfl rfl ?_
  refine ac_iconst C dL_law_367 (by decide) ?_
  refine ac_iadd C dL_law_368 (by omega) ?_
  refine ac_sld C hz (by omega) (by omega) dL_law_369 ?_
  refine ac_callV C cl_RL_50 (w_X9_leads hB hM1) (by decide) rfl hk9 rfl rfl (Nat.le_of_ble_eq_true rfl) hroom dL_law_370 (ac_kI (fun r2 M2 h2 => ?_))
  obtain ⟨hs2, hM2, hq2⟩ := h2
  have e2 : ∀ q, q < 45 → M2 q = M1 q := fun q hq => hs2 q (by simp; omega)
  refine ac_icmp_eq (tgt := 896) C dL_law_373 rfl (fun hq => ?_) (fun hq => ?_)
  · exact nx M2 a (hC1.hi hW e2) hM2
  · exact absurd (hq1.trans hq2.symm) hq
set_option maxRecDepth 100000 in
set_option maxHeartbeats 4000000 in
theorem law_8 {K : AbK} {kc ks : Nat} {S : List AbS} {M : AbM} {L : Nat} {xs : Nat → Int32} {i : Int} {a : St} (C : Cx K code RL room_1) (hz : kX K 64 L xs) (hroom : kc ≤ room_1.cells ∧ ks ≤ room_1.slots) (hW : WL S 0 1 5 7 8 10 12 15 18 25 32 36 37 39 41 43 45) (hB : shMo S 45) (i0 : 0 ≤ i) (i1 : i + 6 ≤ L) (hL : L ≤ 3072) (hC : CRel a M 0 1 5 8 12 15 18 25 37 39 41 43) (hM : MRel a M 45) (nx : ∀ (M2 : AbM) (a2 : St), CRel a2 M2 0 1 5 8 12 15 18 25 37 39 41 43 → MRel a2 M2 45 → AJc K kc ks S 896 [vP 64, vP 0, vP 45, vI i] [] M2) : AJc K kc ks S 378 [vP 64, vP 0, vP 45, vI i] [] M := by
  have hk0 := hW.1.1
  have hk9 := hB.1
  refine ac_aload_n C dL_law_378 rfl rfl ?_
  refine ac_aload_n C dL_law_379 rfl rfl ?_
  refine ac_iload_n C dL_law_380 rfl rfl ?_
  refine ac_iconst C dL_law_381 (by decide) ?_
  refine ac_iadd C dL_law_382 (by omega) ?_
  refine ac_sld C hz (by omega) (by omega) dL_law_383 ?_
  refine ac_aload_n C dL_law_384 rfl rfl ?_
  refine ac_iload_n C dL_law_385 rfl rfl ?_
  refine ac_iconst C dL_law_386 (by decide) ?_
  refine ac_iadd C dL_law_387 (by omega) ?_
  refine ac_sld C hz (by omega) (by omega) dL_law_388 ?_
  refine ac_callV C cl_RL_51 (m_X8_word hW hC) (by decide) rfl hk0 rfl rfl (Nat.le_of_ble_eq_true rfl) hroom dL_law_389 (ac_kI (fun r1 M1 h1 => ?_))
  obtain ⟨hl1, hC1, hq1⟩ := h1
  have hM1 := hM.lo hl1
  refine ac_aload_n C dL_law_392 rfl rfl ?_
  refine ac_aload_n C dL_law_393 rfl rfl ?_
  refine ac_iload_n C dL_law_394 rfl rfl ?_
  refine ac_iconst C dL_law_395 (by decide) ?_
  refine ac_iadd C dL_law_396 (by omega) ?_
  refine ac_sld C hz (by omega) (by omega) dL_law_397 ?_
  refine ac_aload_n C dL_law_398 rfl rfl ?_
  refine ac_iload_n C dL_law_399 rfl rfl ?_
  refine ac_iconst C dL_law_400 (by decide) ?_
  refine ac_iadd C dL_law_401 (by omega) ?_
  refine ac_sld C hz (by omega) (by omega) dL_law_402 ?_
  refine ac_callV C cl_RL_54 (w_X9_word hB hM1) (by decide) rfl hk9 rfl rfl (Nat.le_of_ble_eq_true rfl) hroom dL_law_403 (ac_kI (fun r2 M2 h2 => ?_))
  obtain ⟨hs2, hM2, hq2⟩ := h2
  have e2 : ∀ q, q < 45 → M2 q = M1 q := fun q hq => hs2 q (by simp; omega)
  refine ac_icmp_eq (tgt := 896) C dL_law_406 rfl (fun hq => ?_) (fun hq => ?_)
  · exact nx M2 a (hC1.hi hW e2) hM2
  · exact absurd (hq1.trans hq2.symm) hq
set_option maxRecDepth 100000 in
set_option maxHeartbeats 4000000 in
theorem law_9 {K : AbK} {kc ks : Nat} {S : List AbS} {M : AbM} {L : Nat} {xs : Nat → Int32} {i : Int} {a : St} (C : Cx K code RL room_1) (hz : kX K 64 L xs) (hroom : kc ≤ room_1.cells ∧ ks ≤ room_1.slots) (hW : WL S 0 1 5 7 8 10 12 15 18 25 32 36 37 39 41 43 45) (hB : shMo S 45) (i0 : 0 ≤ i) (i1 : i + 6 ≤ L) (hL : L ≤ 3072) (hC : CRel a M 0 1 5 8 12 15 18 25 37 39 41 43) (hM : MRel a M 45) (nx : ∀ (M2 : AbM) (a2 : St), CRel a2 M2 0 1 5 8 12 15 18 25 37 39 41 43 → MRel a2 M2 45 → AJc K kc ks S 896 [vP 64, vP 0, vP 45, vI i] [] M2) : AJc K kc ks S 411 [vP 64, vP 0, vP 45, vI i] [] M := by
  have hk0 := hW.1.1
  have hk9 := hB.1
  refine ac_aload_n C dL_law_411 rfl rfl ?_
  refine ac_aload_n C dL_law_412 rfl rfl ?_
  refine ac_iload_n C dL_law_413 rfl rfl ?_
  refine ac_iconst C dL_law_414 (by decide) ?_
  refine ac_iadd C dL_law_415 (by omega) ?_
  refine ac_sld C hz (by omega) (by omega) dL_law_416 ?_
  refine ac_aload_n C dL_law_417 rfl rfl ?_
  refine ac_iload_n C dL_law_418 rfl rfl ?_
  refine ac_iconst C dL_law_419 (by decide) ?_
  refine ac_iadd C dL_law_420 (by omega) ?_
  refine ac_sld C hz (by omega) (by omega) dL_law_421 ?_
  refine ac_aload_n C dL_law_422 rfl rfl ?_
  refine ac_iload_n C dL_law_423 rfl rfl ?_
  refine ac_iconst C dL_law_424 (by decide) ?_
  refine ac_iadd C dL_law_425 (by omega) ?_
  refine ac_sld C hz (by omega) (by omega) dL_law_426 ?_
  refine ac_callV C cl_RL_55 (m_X8_plain hW hC) (by decide) rfl hk0 rfl rfl (Nat.le_of_ble_eq_true rfl) hroom dL_law_427 (ac_kI (fun r1 M1 h1 => ?_))
  obtain ⟨hl1, hC1, hq1⟩ := h1
  have hM1 := hM.lo hl1
  refine ac_aload_n C dL_law_430 rfl rfl ?_
  refine ac_aload_n C dL_law_431 rfl rfl ?_
  refine ac_iload_n C dL_law_432 rfl rfl ?_
  refine ac_iconst C dL_law_433 (by decide) ?_
  refine ac_iadd C dL_law_434 (by omega) ?_
  refine ac_sld C hz (by omega) (by omega) dL_law_435 ?_
  refine ac_aload_n C dL_law_436 rfl rfl ?_
  refine ac_iload_n C dL_law_437 rfl rfl ?_
  refine ac_iconst C dL_law_438 (by decide) ?_
  refine ac_iadd C dL_law_439 (by omega) ?_
  refine ac_sld C hz (by omega) (by omega) dL_law_440 ?_
  refine ac_aload_n C dL_law_441 rfl rfl ?_
  refine ac_iload_n C dL_law_442 rfl rfl ?_
  refine ac_iconst C dL_law_443 (by decide) ?_
  refine ac_iadd C dL_law_444 (by omega) ?_
  refine ac_sld C hz (by omega) (by omega) dL_law_445 ?_
  refine ac_callV C cl_RL_59 (w_X9_plain hB hM1) (by decide) rfl hk9 rfl rfl (Nat.le_of_ble_eq_true rfl) hroom dL_law_446 (ac_kI (fun r2 M2 h2 => ?_))
  obtain ⟨hs2, hM2, hq2⟩ := h2
  have e2 : ∀ q, q < 45 → M2 q = M1 q := fun q hq => hs2 q (by simp; omega)
  refine ac_icmp_eq (tgt := 896) C dL_law_449 rfl (fun hq => ?_) (fun hq => ?_)
  · exact nx M2 a (hC1.hi hW e2) hM2
  · exact absurd (hq1.trans hq2.symm) hq
set_option maxRecDepth 100000 in
set_option maxHeartbeats 4000000 in
theorem law_10 {K : AbK} {kc ks : Nat} {S : List AbS} {M : AbM} {L : Nat} {xs : Nat → Int32} {i : Int} {a : St} (C : Cx K code RL room_1) (hz : kX K 64 L xs) (hroom : kc ≤ room_1.cells ∧ ks ≤ room_1.slots) (hW : WL S 0 1 5 7 8 10 12 15 18 25 32 36 37 39 41 43 45) (hB : shMo S 45) (i0 : 0 ≤ i) (i1 : i + 6 ≤ L) (hL : L ≤ 3072) (hC : CRel a M 0 1 5 8 12 15 18 25 37 39 41 43) (hM : MRel a M 45) (nx : ∀ (M2 : AbM) (a2 : St), CRel a2 M2 0 1 5 8 12 15 18 25 37 39 41 43 → MRel a2 M2 45 → AJc K kc ks S 896 [vP 64, vP 0, vP 45, vI i] [] M2) : AJc K kc ks S 454 [vP 64, vP 0, vP 45, vI i] [] M := by
  have hk0 := hW.1.1
  have hk9 := hB.1
  refine ac_aload_n C dL_law_454 rfl rfl ?_
  refine ac_aload_n C dL_law_455 rfl rfl ?_
  refine ac_iload_n C dL_law_456 rfl rfl ?_
  refine ac_iconst C dL_law_457 (by decide) ?_
  refine ac_iadd C dL_law_458 (by omega) ?_
  refine ac_sld C hz (by omega) (by omega) dL_law_459 ?_
  refine ac_aload_n C dL_law_460 rfl rfl ?_
  refine ac_iload_n C dL_law_461 rfl rfl ?_
  refine ac_iconst C dL_law_462 (by decide) ?_
  refine ac_iadd C dL_law_463 (by omega) ?_
  refine ac_sld C hz (by omega) (by omega) dL_law_464 ?_
  refine ac_callV C cl_RL_60 (m_X8_least hW hC) (by decide) rfl hk0 rfl rfl (Nat.le_of_ble_eq_true rfl) hroom dL_law_465 (ac_kI (fun r1 M1 h1 => ?_))
  obtain ⟨hl1, hC1, hq1⟩ := h1
  have hM1 := hM.lo hl1
  refine ac_aload_n C dL_law_468 rfl rfl ?_
  refine ac_aload_n C dL_law_469 rfl rfl ?_
  refine ac_iload_n C dL_law_470 rfl rfl ?_
  refine ac_iconst C dL_law_471 (by decide) ?_
  refine ac_iadd C dL_law_472 (by omega) ?_
  refine ac_sld C hz (by omega) (by omega) dL_law_473 ?_
  refine ac_aload_n C dL_law_474 rfl rfl ?_
  refine ac_iload_n C dL_law_475 rfl rfl ?_
  refine ac_iconst C dL_law_476 (by decide) ?_
  refine ac_iadd C dL_law_477 (by omega) ?_
  refine ac_sld C hz (by omega) (by omega) dL_law_478 ?_
  refine ac_callV C cl_RL_63 (w_X9_least hB hM1) (by decide) rfl hk9 rfl rfl (Nat.le_of_ble_eq_true rfl) hroom dL_law_479 (ac_kI (fun r2 M2 h2 => ?_))
  obtain ⟨hs2, hM2, hq2⟩ := h2
  have e2 : ∀ q, q < 45 → M2 q = M1 q := fun q hq => hs2 q (by simp; omega)
  refine ac_icmp_eq (tgt := 896) C dL_law_482 rfl (fun hq => ?_) (fun hq => ?_)
  · exact nx M2 a (hC1.hi hW e2) hM2
  · exact absurd (aLeast_un hM.1.1.1 hq1 hq2) hq
set_option maxRecDepth 100000 in
set_option maxHeartbeats 4000000 in
theorem law_11 {K : AbK} {kc ks : Nat} {S : List AbS} {M : AbM} {L : Nat} {xs : Nat → Int32} {i : Int} {a : St} (C : Cx K code RL room_1) (hz : kX K 64 L xs) (hroom : kc ≤ room_1.cells ∧ ks ≤ room_1.slots) (hW : WL S 0 1 5 7 8 10 12 15 18 25 32 36 37 39 41 43 45) (hB : shMo S 45) (i0 : 0 ≤ i) (i1 : i + 6 ≤ L) (hL : L ≤ 3072) (hC : CRel a M 0 1 5 8 12 15 18 25 37 39 41 43) (hM : MRel a M 45) (nx : ∀ (M2 : AbM) (a2 : St), CRel a2 M2 0 1 5 8 12 15 18 25 37 39 41 43 → MRel a2 M2 45 → AJc K kc ks S 896 [vP 64, vP 0, vP 45, vI i] [] M2) : AJc K kc ks S 487 [vP 64, vP 0, vP 45, vI i] [] M := by
  have hk0 := hW.1.1
  have hk9 := hB.1
  refine ac_aload_n C dL_law_487 rfl rfl ?_
  refine ac_aload_n C dL_law_488 rfl rfl ?_
  refine ac_iload_n C dL_law_489 rfl rfl ?_
  refine ac_iconst C dL_law_490 (by decide) ?_
  refine ac_iadd C dL_law_491 (by omega) ?_
  refine ac_sld C hz (by omega) (by omega) dL_law_492 ?_
  refine ac_aload_n C dL_law_493 rfl rfl ?_
  refine ac_iload_n C dL_law_494 rfl rfl ?_
  refine ac_iconst C dL_law_495 (by decide) ?_
  refine ac_iadd C dL_law_496 (by omega) ?_
  refine ac_sld C hz (by omega) (by omega) dL_law_497 ?_
  refine ac_aload_n C dL_law_498 rfl rfl ?_
  refine ac_iload_n C dL_law_499 rfl rfl ?_
  refine ac_iconst C dL_law_500 (by decide) ?_
  refine ac_iadd C dL_law_501 (by omega) ?_
  refine ac_sld C hz (by omega) (by omega) dL_law_502 ?_
  refine ac_aload_n C dL_law_503 rfl rfl ?_
  refine ac_iload_n C dL_law_504 rfl rfl ?_
  refine ac_iconst C dL_law_505 (by decide) ?_
  refine ac_iadd C dL_law_506 (by omega) ?_
  refine ac_sld C hz (by omega) (by omega) dL_law_507 ?_
  refine ac_aload_n C dL_law_508 rfl rfl ?_
  refine ac_iload_n C dL_law_509 rfl rfl ?_
  refine ac_iconst C dL_law_510 (by decide) ?_
  refine ac_iadd C dL_law_511 (by omega) ?_
  refine ac_sld C hz (by omega) (by omega) dL_law_512 ?_
  refine ac_callV C cl_RL_64 (m_X8_product hW hC) (by decide) rfl hk0 rfl rfl (Nat.le_of_ble_eq_true rfl) hroom dL_law_513 (ac_kI (fun r1 M1 h1 => ?_))
  obtain ⟨hl1, hC1, hq1⟩ := h1
  have hM1 := hM.lo hl1
  refine ac_aload_n C dL_law_516 rfl rfl ?_
  refine ac_aload_n C dL_law_517 rfl rfl ?_
  refine ac_iload_n C dL_law_518 rfl rfl ?_
  refine ac_iconst C dL_law_519 (by decide) ?_
  refine ac_iadd C dL_law_520 (by omega) ?_
  refine ac_sld C hz (by omega) (by omega) dL_law_521 ?_
  refine ac_aload_n C dL_law_522 rfl rfl ?_
  refine ac_iload_n C dL_law_523 rfl rfl ?_
  refine ac_iconst C dL_law_524 (by decide) ?_
  refine ac_iadd C dL_law_525 (by omega) ?_
  refine ac_sld C hz (by omega) (by omega) dL_law_526 ?_
  refine ac_aload_n C dL_law_527 rfl rfl ?_
  refine ac_iload_n C dL_law_528 rfl rfl ?_
  refine ac_iconst C dL_law_529 (by decide) ?_
  refine ac_iadd C dL_law_530 (by omega) ?_
  refine ac_sld C hz (by omega) (by omega) dL_law_531 ?_
  refine ac_aload_n C dL_law_532 rfl rfl ?_
  refine ac_iload_n C dL_law_533 rfl rfl ?_
  refine ac_iconst C dL_law_534 (by decide) ?_
  refine ac_iadd C dL_law_535 (by omega) ?_
  refine ac_sld C hz (by omega) (by omega) dL_law_536 ?_
  refine ac_aload_n C dL_law_537 rfl rfl ?_
  refine ac_iload_n C dL_law_538 rfl rfl ?_
  refine ac_iconst C dL_law_539 (by decide) ?_
  refine ac_iadd C dL_law_540 (by omega) ?_
  refine ac_sld C hz (by omega) (by omega) dL_law_541 ?_
  refine ac_callV C cl_RL_68 (w_X9_product hB hM1) (by decide) rfl hk9 rfl rfl (Nat.le_of_ble_eq_true rfl) hroom dL_law_542 (ac_kI (fun r2 M2 h2 => ?_))
  obtain ⟨hs2, hM2, hq2⟩ := h2
  have e2 : ∀ q, q < 45 → M2 q = M1 q := fun q hq => hs2 q (by simp; omega)
  refine ac_icmp_eq (tgt := 896) C dL_law_545 rfl (fun hq => ?_) (fun hq => ?_)
  · exact nx M2 a (hC1.hi hW e2) hM2
  · exact absurd (hq1.trans hq2.symm) hq
set_option maxRecDepth 100000 in
set_option maxHeartbeats 4000000 in
theorem law_12 {K : AbK} {kc ks : Nat} {S : List AbS} {M : AbM} {L : Nat} {xs : Nat → Int32} {i : Int} {a : St} (C : Cx K code RL room_1) (hz : kX K 64 L xs) (hroom : kc ≤ room_1.cells ∧ ks ≤ room_1.slots) (hW : WL S 0 1 5 7 8 10 12 15 18 25 32 36 37 39 41 43 45) (hB : shMo S 45) (i0 : 0 ≤ i) (i1 : i + 6 ≤ L) (hL : L ≤ 3072) (hC : CRel a M 0 1 5 8 12 15 18 25 37 39 41 43) (hM : MRel a M 45) (nx : ∀ (M2 : AbM) (a2 : St), CRel a2 M2 0 1 5 8 12 15 18 25 37 39 41 43 → MRel a2 M2 45 → AJc K kc ks S 896 [vP 64, vP 0, vP 45, vI i] [] M2) : AJc K kc ks S 550 [vP 64, vP 0, vP 45, vI i] [] M := by
  have hk0 := hW.1.1
  have hk9 := hB.1
  refine ac_aload_n C dL_law_550 rfl rfl ?_
  refine ac_aload_n C dL_law_551 rfl rfl ?_
  refine ac_iload_n C dL_law_552 rfl rfl ?_
  refine ac_iconst C dL_law_553 (by decide) ?_
  refine ac_iadd C dL_law_554 (by omega) ?_
  refine ac_sld C hz (by omega) (by omega) dL_law_555 ?_
  refine ac_callV C cl_RL_69 (m_X8_middle hW hC) (by decide) rfl hk0 rfl rfl (Nat.le_of_ble_eq_true rfl) hroom dL_law_556 (ac_kI (fun r1 M1 h1 => ?_))
  obtain ⟨hl1, hC1, hq1⟩ := h1
  have hM1 := hM.lo hl1
  refine ac_aload_n C dL_law_559 rfl rfl ?_
  refine ac_aload_n C dL_law_560 rfl rfl ?_
  refine ac_iload_n C dL_law_561 rfl rfl ?_
  refine ac_iconst C dL_law_562 (by decide) ?_
  refine ac_iadd C dL_law_563 (by omega) ?_
  refine ac_sld C hz (by omega) (by omega) dL_law_564 ?_
  refine ac_callV C cl_RL_72 (w_X9_middle hB hM1) (by decide) rfl hk9 rfl rfl (Nat.le_of_ble_eq_true rfl) hroom dL_law_565 (ac_kI (fun r2 M2 h2 => ?_))
  obtain ⟨hs2, hM2, hq2⟩ := h2
  have e2 : ∀ q, q < 45 → M2 q = M1 q := fun q hq => hs2 q (by simp; omega)
  refine ac_icmp_eq (tgt := 896) C dL_law_568 rfl (fun hq => ?_) (fun hq => ?_)
  · exact nx M2 a (hC1.hi hW e2) hM2
  · exact absurd (hq1.trans hq2.symm) hq
set_option maxRecDepth 100000 in
set_option maxHeartbeats 4000000 in
theorem law_13 {K : AbK} {kc ks : Nat} {S : List AbS} {M : AbM} {L : Nat} {xs : Nat → Int32} {i : Int} {a : St} (C : Cx K code RL room_1) (hz : kX K 64 L xs) (hroom : kc ≤ room_1.cells ∧ ks ≤ room_1.slots) (hW : WL S 0 1 5 7 8 10 12 15 18 25 32 36 37 39 41 43 45) (hB : shMo S 45) (i0 : 0 ≤ i) (i1 : i + 6 ≤ L) (hL : L ≤ 3072) (hC : CRel a M 0 1 5 8 12 15 18 25 37 39 41 43) (hM : MRel a M 45) (nx : ∀ (M2 : AbM) (a2 : St), CRel a2 M2 0 1 5 8 12 15 18 25 37 39 41 43 → MRel a2 M2 45 → AJc K kc ks S 896 [vP 64, vP 0, vP 45, vI i] [] M2) : AJc K kc ks S 573 [vP 64, vP 0, vP 45, vI i] [] M := by
  have hk0 := hW.1.1
  have hk9 := hB.1
  refine ac_aload_n C dL_law_573 rfl rfl ?_
  refine ac_aload_n C dL_law_574 rfl rfl ?_
  refine ac_iload_n C dL_law_575 rfl rfl ?_
  refine ac_iconst C dL_law_576 (by decide) ?_
  refine ac_iadd C dL_law_577 (by omega) ?_
  refine ac_sld C hz (by omega) (by omega) dL_law_578 ?_
  refine ac_callV C cl_RL_73 (m_X8_other hW hC) (by decide) rfl hk0 rfl rfl (Nat.le_of_ble_eq_true rfl) hroom dL_law_579 (ac_kI (fun r1 M1 h1 => ?_))
  obtain ⟨hl1, hC1, hq1⟩ := h1
  have hM1 := hM.lo hl1
  refine ac_aload_n C dL_law_582 rfl rfl ?_
  refine ac_aload_n C dL_law_583 rfl rfl ?_
  refine ac_iload_n C dL_law_584 rfl rfl ?_
  refine ac_iconst C dL_law_585 (by decide) ?_
  refine ac_iadd C dL_law_586 (by omega) ?_
  refine ac_sld C hz (by omega) (by omega) dL_law_587 ?_
  refine ac_callV C cl_RL_76 (w_X9_other hB hM1) (by decide) rfl hk9 rfl rfl (Nat.le_of_ble_eq_true rfl) hroom dL_law_588 (ac_kI (fun r2 M2 h2 => ?_))
  obtain ⟨hs2, hM2, hq2⟩ := h2
  have e2 : ∀ q, q < 45 → M2 q = M1 q := fun q hq => hs2 q (by simp; omega)
  refine ac_icmp_eq (tgt := 896) C dL_law_591 rfl (fun hq => ?_) (fun hq => ?_)
  · exact nx M2 a (hC1.hi hW e2) hM2
  · exact absurd (hq1.trans hq2.symm) hq
set_option maxRecDepth 100000 in
set_option maxHeartbeats 4000000 in
theorem law_14 {K : AbK} {kc ks : Nat} {S : List AbS} {M : AbM} {L : Nat} {xs : Nat → Int32} {i : Int} {a : St} (C : Cx K code RL room_1) (hz : kX K 64 L xs) (hroom : kc ≤ room_1.cells ∧ ks ≤ room_1.slots) (hW : WL S 0 1 5 7 8 10 12 15 18 25 32 36 37 39 41 43 45) (hB : shMo S 45) (i0 : 0 ≤ i) (i1 : i + 6 ≤ L) (hL : L ≤ 3072) (hC : CRel a M 0 1 5 8 12 15 18 25 37 39 41 43) (hM : MRel a M 45) (nx : ∀ (M2 : AbM) (a2 : St), CRel a2 M2 0 1 5 8 12 15 18 25 37 39 41 43 → MRel a2 M2 45 → AJc K kc ks S 896 [vP 64, vP 0, vP 45, vI i] [] M2) : AJc K kc ks S 596 [vP 64, vP 0, vP 45, vI i] [] M := by
  have hk0 := hW.1.1
  have hk9 := hB.1
  refine ac_aload_n C dL_law_596 rfl rfl ?_
  refine ac_callV C cl_RL_77 (m_X8_fit hW hC) (by decide) rfl hk0 rfl rfl (Nat.le_of_ble_eq_true rfl) hroom dL_law_597 (ac_kI (fun r1 M1 h1 => ?_))
  obtain ⟨hl1, hC1, hq1⟩ := h1
  have hM1 := hM.lo hl1
  refine ac_aload_n C dL_law_600 rfl rfl ?_
  refine ac_callV C cl_RL_80 (w_X9_fit hB hM1) (by decide) rfl hk9 rfl rfl (Nat.le_of_ble_eq_true rfl) hroom dL_law_601 (ac_kI (fun r2 M2 h2 => ?_))
  obtain ⟨hs2, hM2, hq2⟩ := h2
  have e2 : ∀ q, q < 45 → M2 q = M1 q := fun q hq => hs2 q (by simp; omega)
  refine ac_icmp_eq (tgt := 896) C dL_law_604 rfl (fun hq => ?_) (fun hq => ?_)
  · exact nx M2 a (hC1.hi hW e2) hM2
  · exact absurd (aFit_un hq1 hq2) hq
set_option maxRecDepth 100000 in
set_option maxHeartbeats 4000000 in
theorem law_15 {K : AbK} {kc ks : Nat} {S : List AbS} {M : AbM} {L : Nat} {xs : Nat → Int32} {i : Int} {a : St} (C : Cx K code RL room_1) (hz : kX K 64 L xs) (hroom : kc ≤ room_1.cells ∧ ks ≤ room_1.slots) (hW : WL S 0 1 5 7 8 10 12 15 18 25 32 36 37 39 41 43 45) (hB : shMo S 45) (i0 : 0 ≤ i) (i1 : i + 6 ≤ L) (hL : L ≤ 3072) (hC : CRel a M 0 1 5 8 12 15 18 25 37 39 41 43) (hM : MRel a M 45) (nx : ∀ (M2 : AbM) (a2 : St), CRel a2 M2 0 1 5 8 12 15 18 25 37 39 41 43 → MRel a2 M2 45 → AJc K kc ks S 896 [vP 64, vP 0, vP 45, vI i] [] M2) : AJc K kc ks S 609 [vP 64, vP 0, vP 45, vI i] [] M := by
  have hk0 := hW.1.1
  have hk9 := hB.1
  refine ac_aload_n C dL_law_609 rfl rfl ?_
  refine ac_callV C cl_RL_81 (m_X8_sum hW hC) (by decide) rfl hk0 rfl rfl (Nat.le_of_ble_eq_true rfl) hroom dL_law_610 (ac_kI (fun r1 M1 h1 => ?_))
  obtain ⟨hl1, b1, ho1, hC1⟩ := h1
  have hM1 := hM.lo hl1
  refine ac_aload_n C dL_law_613 rfl rfl ?_
  refine ac_callV C cl_RL_84 (m_X9_sum hB hM1) (by decide) rfl hk9 rfl rfl (Nat.le_of_ble_eq_true rfl) hroom dL_law_614 (ac_kI (fun r2 M2 h2 => ?_))
  obtain ⟨hs2, b2, ho2, hM2⟩ := h2
  have e2 : ∀ q, q < 45 → M2 q = M1 q := fun q hq => hs2 q (by simp; omega)
  refine ac_icmp_eq (tgt := 896) C dL_law_617 rfl (fun hq => ?_) (fun hq => ?_)
  · exact nx M2 b1 (hC1.hi hW e2) ((oSum_un ho1 ho2).2 M2 45 hM2)
  · exact absurd (oSum_un ho1 ho2).1 hq
set_option maxRecDepth 100000 in
set_option maxHeartbeats 4000000 in
theorem law_16 {K : AbK} {kc ks : Nat} {S : List AbS} {M : AbM} {L : Nat} {xs : Nat → Int32} {i : Int} {a : St} (C : Cx K code RL room_1) (hz : kX K 64 L xs) (hroom : kc ≤ room_1.cells ∧ ks ≤ room_1.slots) (hW : WL S 0 1 5 7 8 10 12 15 18 25 32 36 37 39 41 43 45) (hB : shMo S 45) (i0 : 0 ≤ i) (i1 : i + 6 ≤ L) (hL : L ≤ 3072) (hC : CRel a M 0 1 5 8 12 15 18 25 37 39 41 43) (hM : MRel a M 45) (nx : ∀ (M2 : AbM) (a2 : St), CRel a2 M2 0 1 5 8 12 15 18 25 37 39 41 43 → MRel a2 M2 45 → AJc K kc ks S 896 [vP 64, vP 0, vP 45, vI i] [] M2) : AJc K kc ks S 622 [vP 64, vP 0, vP 45, vI i] [] M := by
  have hk0 := hW.1.1
  have hk9 := hB.1
  refine ac_aload_n C dL_law_622 rfl rfl ?_
  refine ac_aload_n C dL_law_623 rfl rfl ?_
  refine ac_iload_n C dL_law_624 rfl rfl ?_
  refine ac_iconst C dL_law_625 (by decide) ?_
  refine ac_iadd C dL_law_626 (by omega) ?_
  refine ac_sld C hz (by omega) (by omega) dL_law_627 ?_
  refine ac_aload_n C dL_law_628 rfl rfl ?_
  refine ac_iload_n C dL_law_629 rfl rfl ?_
  refine ac_iconst C dL_law_630 (by decide) ?_
  refine ac_iadd C dL_law_631 (by omega) ?_
  refine ac_sld C hz (by omega) (by omega) dL_law_632 ?_
  refine ac_callV C cl_RL_85 (m_X8_part hW hC) (by decide) rfl hk0 rfl rfl (Nat.le_of_ble_eq_true rfl) hroom dL_law_633 (ac_kI (fun r1 M1 h1 => ?_))
  obtain ⟨hl1, hC1, hq1⟩ := h1
  have hM1 := hM.lo hl1
  refine ac_aload_n C dL_law_636 rfl rfl ?_
  refine ac_aload_n C dL_law_637 rfl rfl ?_
  refine ac_iload_n C dL_law_638 rfl rfl ?_
  refine ac_iconst C dL_law_639 (by decide) ?_
  refine ac_iadd C dL_law_640 (by omega) ?_
  refine ac_sld C hz (by omega) (by omega) dL_law_641 ?_
  refine ac_aload_n C dL_law_642 rfl rfl ?_
  refine ac_iload_n C dL_law_643 rfl rfl ?_
  refine ac_iconst C dL_law_644 (by decide) ?_
  refine ac_iadd C dL_law_645 (by omega) ?_
  refine ac_sld C hz (by omega) (by omega) dL_law_646 ?_
  refine ac_callV C cl_RL_88 (m_X9_part hB hM1) (by decide) rfl hk9 rfl rfl (Nat.le_of_ble_eq_true rfl) hroom dL_law_647 (ac_kI (fun r2 M2 h2 => ?_))
  obtain ⟨rfl, hq2⟩ := h2
  refine ac_icmp_eq (tgt := 896) C dL_law_650 rfl (fun hq => ?_) (fun hq => ?_)
  · exact nx M1 a hC1 hM1
  · exact absurd (hq1.trans hq2) hq
set_option maxRecDepth 100000 in
set_option maxHeartbeats 4000000 in
theorem law_17 {K : AbK} {kc ks : Nat} {S : List AbS} {M : AbM} {L : Nat} {xs : Nat → Int32} {i : Int} {a : St} (C : Cx K code RL room_1) (hz : kX K 64 L xs) (hroom : kc ≤ room_1.cells ∧ ks ≤ room_1.slots) (hW : WL S 0 1 5 7 8 10 12 15 18 25 32 36 37 39 41 43 45) (hB : shMo S 45) (i0 : 0 ≤ i) (i1 : i + 6 ≤ L) (hL : L ≤ 3072) (hC : CRel a M 0 1 5 8 12 15 18 25 37 39 41 43) (hM : MRel a M 45) (nx : ∀ (M2 : AbM) (a2 : St), CRel a2 M2 0 1 5 8 12 15 18 25 37 39 41 43 → MRel a2 M2 45 → AJc K kc ks S 896 [vP 64, vP 0, vP 45, vI i] [] M2) : AJc K kc ks S 655 [vP 64, vP 0, vP 45, vI i] [] M := by
  have hk0 := hW.1.1
  have hk9 := hB.1
  refine ac_aload_n C dL_law_655 rfl rfl ?_
  refine ac_callV C cl_RL_89 (m_X8_reduce hW hC) (by decide) rfl hk0 rfl rfl (Nat.le_of_ble_eq_true rfl) hroom dL_law_656 (ac_kI (fun r1 M1 h1 => ?_))
  obtain ⟨hl1, b1, ho1, hC1⟩ := h1
  have hM1 := hM.lo hl1
  refine ac_aload_n C dL_law_659 rfl rfl ?_
  refine ac_callV C cl_RL_92 (m_X9_reduce hB hM1) (by decide) rfl hk9 rfl rfl (Nat.le_of_ble_eq_true rfl) hroom dL_law_660 (ac_kI (fun r2 M2 h2 => ?_))
  obtain ⟨hs2, b2, ho2, hM2⟩ := h2
  have e2 : ∀ q, q < 45 → M2 q = M1 q := fun q hq => hs2 q (by simp; omega)
  refine ac_icmp_eq (tgt := 896) C dL_law_663 rfl (fun hq => ?_) (fun hq => ?_)
  · exact nx M2 b1 (hC1.hi hW e2) ((oReduce_un ho1 ho2).2 M2 45 hM2)
  · exact absurd (oReduce_un ho1 ho2).1 hq
set_option maxRecDepth 100000 in
set_option maxHeartbeats 4000000 in
theorem law_18 {K : AbK} {kc ks : Nat} {S : List AbS} {M : AbM} {L : Nat} {xs : Nat → Int32} {i : Int} {a : St} (C : Cx K code RL room_1) (hz : kX K 64 L xs) (hroom : kc ≤ room_1.cells ∧ ks ≤ room_1.slots) (hW : WL S 0 1 5 7 8 10 12 15 18 25 32 36 37 39 41 43 45) (hB : shMo S 45) (i0 : 0 ≤ i) (i1 : i + 6 ≤ L) (hL : L ≤ 3072) (hC : CRel a M 0 1 5 8 12 15 18 25 37 39 41 43) (hM : MRel a M 45) (nx : ∀ (M2 : AbM) (a2 : St), CRel a2 M2 0 1 5 8 12 15 18 25 37 39 41 43 → MRel a2 M2 45 → AJc K kc ks S 896 [vP 64, vP 0, vP 45, vI i] [] M2) : AJc K kc ks S 668 [vP 64, vP 0, vP 45, vI i] [] M := by
  have hk0 := hW.1.1
  have hk9 := hB.1
  refine ac_aload_n C dL_law_668 rfl rfl ?_
  refine ac_aload_n C dL_law_669 rfl rfl ?_
  refine ac_iload_n C dL_law_670 rfl rfl ?_
  refine ac_iconst C dL_law_671 (by decide) ?_
  refine ac_iadd C dL_law_672 (by omega) ?_
  refine ac_sld C hz (by omega) (by omega) dL_law_673 ?_
  refine ac_aload_n C dL_law_674 rfl rfl ?_
  refine ac_iload_n C dL_law_675 rfl rfl ?_
  refine ac_iconst C dL_law_676 (by decide) ?_
  refine ac_iadd C dL_law_677 (by omega) ?_
  refine ac_sld C hz (by omega) (by omega) dL_law_678 ?_
  refine ac_callV C cl_RL_93 (m_X8_put hW hC) (by decide) rfl hk0 rfl rfl (Nat.le_of_ble_eq_true rfl) hroom dL_law_679 (ac_kI (fun r1 M1 h1 => ?_))
  obtain ⟨hl1, b1, ho1, hC1⟩ := h1
  have hM1 := hM.lo hl1
  refine ac_aload_n C dL_law_682 rfl rfl ?_
  refine ac_aload_n C dL_law_683 rfl rfl ?_
  refine ac_iload_n C dL_law_684 rfl rfl ?_
  refine ac_iconst C dL_law_685 (by decide) ?_
  refine ac_iadd C dL_law_686 (by omega) ?_
  refine ac_sld C hz (by omega) (by omega) dL_law_687 ?_
  refine ac_aload_n C dL_law_688 rfl rfl ?_
  refine ac_iload_n C dL_law_689 rfl rfl ?_
  refine ac_iconst C dL_law_690 (by decide) ?_
  refine ac_iadd C dL_law_691 (by omega) ?_
  refine ac_sld C hz (by omega) (by omega) dL_law_692 ?_
  refine ac_callV C cl_RL_96 (m_X9_put hB hM1) (by decide) rfl hk9 rfl rfl (Nat.le_of_ble_eq_true rfl) hroom dL_law_693 (ac_kI (fun r2 M2 h2 => ?_))
  obtain ⟨hs2, b2, ho2, hM2⟩ := h2
  have e2 : ∀ q, q < 45 → M2 q = M1 q := fun q hq => hs2 q (by simp; omega)
  refine ac_icmp_eq (tgt := 896) C dL_law_696 rfl (fun hq => ?_) (fun hq => ?_)
  · exact nx M2 b1 (hC1.hi hW e2) ((oPut_un ho1 ho2).2 M2 45 hM2)
  · exact absurd (oPut_un ho1 ho2).1 hq
set_option maxRecDepth 100000 in
set_option maxHeartbeats 4000000 in
theorem law_19 {K : AbK} {kc ks : Nat} {S : List AbS} {M : AbM} {L : Nat} {xs : Nat → Int32} {i : Int} {a : St} (C : Cx K code RL room_1) (hz : kX K 64 L xs) (hroom : kc ≤ room_1.cells ∧ ks ≤ room_1.slots) (hW : WL S 0 1 5 7 8 10 12 15 18 25 32 36 37 39 41 43 45) (hB : shMo S 45) (i0 : 0 ≤ i) (i1 : i + 6 ≤ L) (hL : L ≤ 3072) (hC : CRel a M 0 1 5 8 12 15 18 25 37 39 41 43) (hM : MRel a M 45) (nx : ∀ (M2 : AbM) (a2 : St), CRel a2 M2 0 1 5 8 12 15 18 25 37 39 41 43 → MRel a2 M2 45 → AJc K kc ks S 896 [vP 64, vP 0, vP 45, vI i] [] M2) : AJc K kc ks S 701 [vP 64, vP 0, vP 45, vI i] [] M := by
  have hk0 := hW.1.1
  have hk9 := hB.1
  refine ac_aload_n C dL_law_701 rfl rfl ?_
  refine ac_aload_n C dL_law_702 rfl rfl ?_
  refine ac_iload_n C dL_law_703 rfl rfl ?_
  refine ac_iconst C dL_law_704 (by decide) ?_
  refine ac_iadd C dL_law_705 (by omega) ?_
  refine ac_sld C hz (by omega) (by omega) dL_law_706 ?_
  refine ac_callV C cl_RL_97 (m_X8_times hW hC) (by decide) rfl hk0 rfl rfl (Nat.le_of_ble_eq_true rfl) hroom dL_law_707 (ac_kI (fun r1 M1 h1 => ?_))
  obtain ⟨hl1, b1, ho1, hC1⟩ := h1
  have hM1 := hM.lo hl1
  refine ac_aload_n C dL_law_710 rfl rfl ?_
  refine ac_aload_n C dL_law_711 rfl rfl ?_
  refine ac_iload_n C dL_law_712 rfl rfl ?_
  refine ac_iconst C dL_law_713 (by decide) ?_
  refine ac_iadd C dL_law_714 (by omega) ?_
  refine ac_sld C hz (by omega) (by omega) dL_law_715 ?_
  refine ac_callV C cl_RL_100 (m_X9_times hB hM1) (by decide) rfl hk9 rfl rfl (Nat.le_of_ble_eq_true rfl) hroom dL_law_716 (ac_kI (fun r2 M2 h2 => ?_))
  obtain ⟨hs2, b2, ho2, hM2⟩ := h2
  have e2 : ∀ q, q < 45 → M2 q = M1 q := fun q hq => hs2 q (by simp; omega)
  refine ac_icmp_eq (tgt := 896) C dL_law_719 rfl (fun hq => ?_) (fun hq => ?_)
  · exact nx M2 b1 (hC1.hi hW e2) ((oTimes_un ho1 ho2).2 M2 45 hM2)
  · exact absurd (oTimes_un ho1 ho2).1 hq
set_option maxRecDepth 100000 in
set_option maxHeartbeats 4000000 in
theorem law_20 {K : AbK} {kc ks : Nat} {S : List AbS} {M : AbM} {L : Nat} {xs : Nat → Int32} {i : Int} {a : St} (C : Cx K code RL room_1) (hz : kX K 64 L xs) (hroom : kc ≤ room_1.cells ∧ ks ≤ room_1.slots) (hW : WL S 0 1 5 7 8 10 12 15 18 25 32 36 37 39 41 43 45) (hB : shMo S 45) (i0 : 0 ≤ i) (i1 : i + 6 ≤ L) (hL : L ≤ 3072) (hC : CRel a M 0 1 5 8 12 15 18 25 37 39 41 43) (hM : MRel a M 45) (nx : ∀ (M2 : AbM) (a2 : St), CRel a2 M2 0 1 5 8 12 15 18 25 37 39 41 43 → MRel a2 M2 45 → AJc K kc ks S 896 [vP 64, vP 0, vP 45, vI i] [] M2) : AJc K kc ks S 724 [vP 64, vP 0, vP 45, vI i] [] M := by
  have hk0 := hW.1.1
  have hk9 := hB.1
  refine ac_aload_n C dL_law_724 rfl rfl ?_
  refine ac_aload_n C dL_law_725 rfl rfl ?_
  refine ac_iload_n C dL_law_726 rfl rfl ?_
  refine ac_iconst C dL_law_727 (by decide) ?_
  refine ac_iadd C dL_law_728 (by omega) ?_
  refine ac_sld C hz (by omega) (by omega) dL_law_729 ?_
  refine ac_aload_n C dL_law_730 rfl rfl ?_
  refine ac_iload_n C dL_law_731 rfl rfl ?_
  refine ac_iconst C dL_law_732 (by decide) ?_
  refine ac_iadd C dL_law_733 (by omega) ?_
  refine ac_sld C hz (by omega) (by omega) dL_law_734 ?_
  refine ac_aload_n C dL_law_735 rfl rfl ?_
  refine ac_iload_n C dL_law_736 rfl rfl ?_
  refine ac_iconst C dL_law_737 (by decide) ?_
  refine ac_iadd C dL_law_738 (by omega) ?_
  refine ac_sld C hz (by omega) (by omega) dL_law_739 ?_
  refine ac_callV C cl_RL_101 (m_X8_sheet hW hC) (by decide) rfl hk0 rfl rfl (Nat.le_of_ble_eq_true rfl) hroom dL_law_740 (ac_kI (fun r1 M1 h1 => ?_))
  obtain ⟨hl1, b1, ho1, hC1⟩ := h1
  have hM1 := hM.lo hl1
  refine ac_aload_n C dL_law_743 rfl rfl ?_
  refine ac_aload_n C dL_law_744 rfl rfl ?_
  refine ac_iload_n C dL_law_745 rfl rfl ?_
  refine ac_iconst C dL_law_746 (by decide) ?_
  refine ac_iadd C dL_law_747 (by omega) ?_
  refine ac_sld C hz (by omega) (by omega) dL_law_748 ?_
  refine ac_aload_n C dL_law_749 rfl rfl ?_
  refine ac_iload_n C dL_law_750 rfl rfl ?_
  refine ac_iconst C dL_law_751 (by decide) ?_
  refine ac_iadd C dL_law_752 (by omega) ?_
  refine ac_sld C hz (by omega) (by omega) dL_law_753 ?_
  refine ac_aload_n C dL_law_754 rfl rfl ?_
  refine ac_iload_n C dL_law_755 rfl rfl ?_
  refine ac_iconst C dL_law_756 (by decide) ?_
  refine ac_iadd C dL_law_757 (by omega) ?_
  refine ac_sld C hz (by omega) (by omega) dL_law_758 ?_
  refine ac_callV C cl_RL_104 (m_X9_sheet hB hM1) (by decide) rfl hk9 rfl rfl (Nat.le_of_ble_eq_true rfl) hroom dL_law_759 (ac_kI (fun r2 M2 h2 => ?_))
  obtain ⟨hs2, b2, ho2, hM2⟩ := h2
  have e2 : ∀ q, q < 45 → M2 q = M1 q := fun q hq => hs2 q (by simp; omega)
  refine ac_icmp_eq (tgt := 896) C dL_law_762 rfl (fun hq => ?_) (fun hq => ?_)
  · exact nx M2 b1 (hC1.hi hW e2) ((oSheet_un ho1 ho2).2 M2 45 hM2)
  · exact absurd (oSheet_un ho1 ho2).1 hq
set_option maxRecDepth 100000 in
set_option maxHeartbeats 4000000 in
theorem law_21 {K : AbK} {kc ks : Nat} {S : List AbS} {M : AbM} {L : Nat} {xs : Nat → Int32} {i : Int} {a : St} (C : Cx K code RL room_1) (hz : kX K 64 L xs) (hroom : kc ≤ room_1.cells ∧ ks ≤ room_1.slots) (hW : WL S 0 1 5 7 8 10 12 15 18 25 32 36 37 39 41 43 45) (hB : shMo S 45) (i0 : 0 ≤ i) (i1 : i + 6 ≤ L) (hL : L ≤ 3072) (hC : CRel a M 0 1 5 8 12 15 18 25 37 39 41 43) (hM : MRel a M 45) (nx : ∀ (M2 : AbM) (a2 : St), CRel a2 M2 0 1 5 8 12 15 18 25 37 39 41 43 → MRel a2 M2 45 → AJc K kc ks S 896 [vP 64, vP 0, vP 45, vI i] [] M2) : AJc K kc ks S 767 [vP 64, vP 0, vP 45, vI i] [] M := by
  have hk0 := hW.1.1
  have hk9 := hB.1
  refine ac_aload_n C dL_law_767 rfl rfl ?_
  refine ac_aload_n C dL_law_768 rfl rfl ?_
  refine ac_iload_n C dL_law_769 rfl rfl ?_
  refine ac_iconst C dL_law_770 (by decide) ?_
  refine ac_iadd C dL_law_771 (by omega) ?_
  refine ac_sld C hz (by omega) (by omega) dL_law_772 ?_
  refine ac_callV C cl_RL_105 (m_X8_drop hW hC) (by decide) rfl hk0 rfl rfl (Nat.le_of_ble_eq_true rfl) hroom dL_law_773 (ac_kI (fun r1 M1 h1 => ?_))
  obtain ⟨hl1, b1, ho1, hC1⟩ := h1
  have hM1 := hM.lo hl1
  refine ac_aload_n C dL_law_776 rfl rfl ?_
  refine ac_aload_n C dL_law_777 rfl rfl ?_
  refine ac_iload_n C dL_law_778 rfl rfl ?_
  refine ac_iconst C dL_law_779 (by decide) ?_
  refine ac_iadd C dL_law_780 (by omega) ?_
  refine ac_sld C hz (by omega) (by omega) dL_law_781 ?_
  refine ac_callV C cl_RL_108 (m_X9_drop hB hM1) (by decide) rfl hk9 rfl rfl (Nat.le_of_ble_eq_true rfl) hroom dL_law_782 (ac_kI (fun r2 M2 h2 => ?_))
  obtain ⟨hs2, b2, ho2, hM2⟩ := h2
  have e2 : ∀ q, q < 45 → M2 q = M1 q := fun q hq => hs2 q (by simp; omega)
  refine ac_icmp_eq (tgt := 896) C dL_law_785 rfl (fun hq => ?_) (fun hq => ?_)
  · exact nx M2 b1 (hC1.hi hW e2) ((oDrop_un ho1 ho2).2 M2 45 hM2)
  · exact absurd (oDrop_un ho1 ho2).1 hq
set_option maxRecDepth 100000 in
set_option maxHeartbeats 4000000 in
theorem law_22 {K : AbK} {kc ks : Nat} {S : List AbS} {M : AbM} {L : Nat} {xs : Nat → Int32} {i : Int} {a : St} (C : Cx K code RL room_1) (hz : kX K 64 L xs) (hroom : kc ≤ room_1.cells ∧ ks ≤ room_1.slots) (hW : WL S 0 1 5 7 8 10 12 15 18 25 32 36 37 39 41 43 45) (hB : shMo S 45) (i0 : 0 ≤ i) (i1 : i + 6 ≤ L) (hL : L ≤ 3072) (hC : CRel a M 0 1 5 8 12 15 18 25 37 39 41 43) (hM : MRel a M 45) (nx : ∀ (M2 : AbM) (a2 : St), CRel a2 M2 0 1 5 8 12 15 18 25 37 39 41 43 → MRel a2 M2 45 → AJc K kc ks S 896 [vP 64, vP 0, vP 45, vI i] [] M2) : AJc K kc ks S 790 [vP 64, vP 0, vP 45, vI i] [] M := by
  have hk0 := hW.1.1
  have hk9 := hB.1
  refine ac_aload_n C dL_law_790 rfl rfl ?_
  refine ac_aload_n C dL_law_791 rfl rfl ?_
  refine ac_iload_n C dL_law_792 rfl rfl ?_
  refine ac_iconst C dL_law_793 (by decide) ?_
  refine ac_iadd C dL_law_794 (by omega) ?_
  refine ac_sld C hz (by omega) (by omega) dL_law_795 ?_
  refine ac_aload_n C dL_law_796 rfl rfl ?_
  refine ac_iload_n C dL_law_797 rfl rfl ?_
  refine ac_iconst C dL_law_798 (by decide) ?_
  refine ac_iadd C dL_law_799 (by omega) ?_
  refine ac_sld C hz (by omega) (by omega) dL_law_800 ?_
  refine ac_aload_n C dL_law_801 rfl rfl ?_
  refine ac_iload_n C dL_law_802 rfl rfl ?_
  refine ac_iconst C dL_law_803 (by decide) ?_
  refine ac_iadd C dL_law_804 (by omega) ?_
  refine ac_sld C hz (by omega) (by omega) dL_law_805 ?_
  refine ac_aload_n C dL_law_806 rfl rfl ?_
  refine ac_iload_n C dL_law_807 rfl rfl ?_
  refine ac_iconst C dL_law_808 (by decide) ?_
  refine ac_iadd C dL_law_809 (by omega) ?_
  refine ac_sld C hz (by omega) (by omega) dL_law_810 ?_
  refine ac_callV C cl_RL_109 (m_X8_item hW hC) (by decide) rfl hk0 rfl rfl (Nat.le_of_ble_eq_true rfl) hroom dL_law_811 (ac_kI (fun r1 M1 h1 => ?_))
  obtain ⟨hl1, b1, ho1, hC1⟩ := h1
  have hM1 := hM.lo hl1
  refine ac_aload_n C dL_law_814 rfl rfl ?_
  refine ac_aload_n C dL_law_815 rfl rfl ?_
  refine ac_iload_n C dL_law_816 rfl rfl ?_
  refine ac_iconst C dL_law_817 (by decide) ?_
  refine ac_iadd C dL_law_818 (by omega) ?_
  refine ac_sld C hz (by omega) (by omega) dL_law_819 ?_
  refine ac_aload_n C dL_law_820 rfl rfl ?_
  refine ac_iload_n C dL_law_821 rfl rfl ?_
  refine ac_iconst C dL_law_822 (by decide) ?_
  refine ac_iadd C dL_law_823 (by omega) ?_
  refine ac_sld C hz (by omega) (by omega) dL_law_824 ?_
  refine ac_aload_n C dL_law_825 rfl rfl ?_
  refine ac_iload_n C dL_law_826 rfl rfl ?_
  refine ac_iconst C dL_law_827 (by decide) ?_
  refine ac_iadd C dL_law_828 (by omega) ?_
  refine ac_sld C hz (by omega) (by omega) dL_law_829 ?_
  refine ac_aload_n C dL_law_830 rfl rfl ?_
  refine ac_iload_n C dL_law_831 rfl rfl ?_
  refine ac_iconst C dL_law_832 (by decide) ?_
  refine ac_iadd C dL_law_833 (by omega) ?_
  refine ac_sld C hz (by omega) (by omega) dL_law_834 ?_
  refine ac_callV C cl_RL_113 (m_X9_item hB hM1) (by decide) rfl hk9 rfl rfl (Nat.le_of_ble_eq_true rfl) hroom dL_law_835 (ac_kI (fun r2 M2 h2 => ?_))
  obtain ⟨hs2, b2, ho2, hM2⟩ := h2
  have e2 : ∀ q, q < 45 → M2 q = M1 q := fun q hq => hs2 q (by simp; omega)
  refine ac_icmp_eq (tgt := 896) C dL_law_838 rfl (fun hq => ?_) (fun hq => ?_)
  · exact nx M2 b1 (hC1.hi hW e2) ((oItem_un ho1 ho2).2 M2 45 hM2)
  · exact absurd (oItem_un ho1 ho2).1 hq
set_option maxRecDepth 100000 in
set_option maxHeartbeats 4000000 in
theorem law_23 {K : AbK} {kc ks : Nat} {S : List AbS} {M : AbM} {L : Nat} {xs : Nat → Int32} {i : Int} {a : St} (C : Cx K code RL room_1) (hz : kX K 64 L xs) (hroom : kc ≤ room_1.cells ∧ ks ≤ room_1.slots) (hW : WL S 0 1 5 7 8 10 12 15 18 25 32 36 37 39 41 43 45) (hB : shMo S 45) (i0 : 0 ≤ i) (i1 : i + 6 ≤ L) (hL : L ≤ 3072) (hC : CRel a M 0 1 5 8 12 15 18 25 37 39 41 43) (hM : MRel a M 45) (nx : ∀ (M2 : AbM) (a2 : St), CRel a2 M2 0 1 5 8 12 15 18 25 37 39 41 43 → MRel a2 M2 45 → AJc K kc ks S 896 [vP 64, vP 0, vP 45, vI i] [] M2) : AJc K kc ks S 843 [vP 64, vP 0, vP 45, vI i] [] M := by
  have hk0 := hW.1.1
  have hk9 := hB.1
  refine ac_aload_n C dL_law_843 rfl rfl ?_
  refine ac_aload_n C dL_law_844 rfl rfl ?_
  refine ac_iload_n C dL_law_845 rfl rfl ?_
  refine ac_iconst C dL_law_846 (by decide) ?_
  refine ac_iadd C dL_law_847 (by omega) ?_
  refine ac_sld C hz (by omega) (by omega) dL_law_848 ?_
  refine ac_aload_n C dL_law_849 rfl rfl ?_
  refine ac_iload_n C dL_law_850 rfl rfl ?_
  refine ac_iconst C dL_law_851 (by decide) ?_
  refine ac_iadd C dL_law_852 (by omega) ?_
  refine ac_sld C hz (by omega) (by omega) dL_law_853 ?_
  refine ac_aload_n C dL_law_854 rfl rfl ?_
  refine ac_iload_n C dL_law_855 rfl rfl ?_
  refine ac_iconst C dL_law_856 (by decide) ?_
  refine ac_iadd C dL_law_857 (by omega) ?_
  refine ac_sld C hz (by omega) (by omega) dL_law_858 ?_
  refine ac_aload_n C dL_law_859 rfl rfl ?_
  refine ac_iload_n C dL_law_860 rfl rfl ?_
  refine ac_iconst C dL_law_861 (by decide) ?_
  refine ac_iadd C dL_law_862 (by omega) ?_
  refine ac_sld C hz (by omega) (by omega) dL_law_863 ?_
  refine ac_callV C cl_RL_114 (m_X8_laws hW hC) (by decide) rfl hk0 rfl rfl (Nat.le_of_ble_eq_true rfl) hroom dL_law_864 (ac_kI (fun r1 M1 h1 => ?_))
  obtain ⟨hl1, b1, ho1, hC1⟩ := h1
  have hM1 := hM.lo hl1
  refine ac_aload_n C dL_law_867 rfl rfl ?_
  refine ac_aload_n C dL_law_868 rfl rfl ?_
  refine ac_iload_n C dL_law_869 rfl rfl ?_
  refine ac_iconst C dL_law_870 (by decide) ?_
  refine ac_iadd C dL_law_871 (by omega) ?_
  refine ac_sld C hz (by omega) (by omega) dL_law_872 ?_
  refine ac_aload_n C dL_law_873 rfl rfl ?_
  refine ac_iload_n C dL_law_874 rfl rfl ?_
  refine ac_iconst C dL_law_875 (by decide) ?_
  refine ac_iadd C dL_law_876 (by omega) ?_
  refine ac_sld C hz (by omega) (by omega) dL_law_877 ?_
  refine ac_aload_n C dL_law_878 rfl rfl ?_
  refine ac_iload_n C dL_law_879 rfl rfl ?_
  refine ac_iconst C dL_law_880 (by decide) ?_
  refine ac_iadd C dL_law_881 (by omega) ?_
  refine ac_sld C hz (by omega) (by omega) dL_law_882 ?_
  refine ac_aload_n C dL_law_883 rfl rfl ?_
  refine ac_iload_n C dL_law_884 rfl rfl ?_
  refine ac_iconst C dL_law_885 (by decide) ?_
  refine ac_iadd C dL_law_886 (by omega) ?_
  refine ac_sld C hz (by omega) (by omega) dL_law_887 ?_
  refine ac_callV C cl_RL_117 (m_X9_laws hB hM1) (by decide) rfl hk9 rfl rfl (Nat.le_of_ble_eq_true rfl) hroom dL_law_888 (ac_kI (fun r2 M2 h2 => ?_))
  obtain ⟨hs2, b2, ho2, hM2⟩ := h2
  have e2 : ∀ q, q < 45 → M2 q = M1 q := fun q hq => hs2 q (by simp; omega)
  refine ac_icmp_eq (tgt := 896) C dL_law_891 rfl (fun hq => ?_) (fun hq => ?_)
  · exact nx M2 b1 (hC1.hi hW e2) ((oLaws_un ho1 ho2).2 M2 45 hM2)
  · exact absurd (oLaws_un ho1 ho2).1 hq
set_option maxRecDepth 100000 in
set_option maxHeartbeats 4000000 in
theorem law_loop {K : AbK} {kc ks : Nat} {S : List AbS} {L : Nat} {xs : Nat → Int32} (C : Cx K code RL room_1) (hz : kX K 64 L xs) (hroom : kc ≤ room_1.cells ∧ ks ≤ room_1.slots) (hW : WL S 0 1 5 7 8 10 12 15 18 25 32 36 37 39 41 43 45) (hB : shMo S 45) (hL : L ≤ 3072) (hE : kE K) (hkc : kc ≤ 600000) (hks : ks ≤ 7302250) : ∀ z : Int × AbM, ((0 ≤ z.1 ∧ z.1 ≤ L) ∧ ∃ a : St, CRel a z.2 0 1 5 8 12 15 18 25 37 39 41 43 ∧ MRel a z.2 45) → AJc K kc ks S 18 [vP 64, vP 0, vP 45, vI z.1] [] z.2 := by
  intro z0 hI0
  refine ab_loopM (fun (z : Int × AbM) => AJc K kc ks S 18 [vP 64, vP 0, vP 45, vI z.1] [] z.2) (fun z => (0 ≤ z.1 ∧ z.1 ≤ L) ∧ ∃ a : St, CRel a z.2 0 1 5 8 12 15 18 25 37 39 41 43 ∧ MRel a z.2 45) (fun z => ((L : Int) - z.1).toNat) ?_ z0 hI0
  intro z hI ih
  obtain ⟨i, M⟩ := z
  obtain ⟨⟨i0, i2⟩, a, hC, hM⟩ := hI
  dsimp only at i0 i2 hC hM ih ⊢
  refine ac_iload_n C dL_law_18 rfl rfl ?_
  refine ac_aload_n C dL_law_19 rfl rfl ?_
  refine ac_slen C hz hL dL_law_20 ?_
  refine ac_bipush C dL_law_21 (by decide) (by decide +kernel) ?_
  refine ac_isub C dL_law_23 (by omega) ?_
  refine ac_icmp_gt (tgt := 902) C dL_law_24 rfl (fun h24 => ?_) (fun h24 => ?_)
  · refine ac_iconst C dL_law_902 (by decide) ?_
    exact ac_end C hE hkc hks dL_law_903
  · have nx : ∀ (M2 : AbM) (a2 : St), CRel a2 M2 0 1 5 8 12 15 18 25 37 39 41 43 → MRel a2 M2 45 → AJc K kc ks S 896 [vP 64, vP 0, vP 45, vI i] [] M2 := fun M2 a2 hC2 hM2 => by
      refine ac_iinc3 (lv := []) C rfl dL_law_896 (by omega) ?_
      refine ac_goto (tgt := 18) C dL_law_899 rfl ?_
      exact ih (i + 6, M2) (by dsimp only; omega) ⟨⟨by dsimp only; omega, by dsimp only; omega⟩, a2, hC2, hM2⟩
    refine ac_aload_n C dL_law_27 rfl rfl ?_
    refine ac_iload_n C dL_law_28 rfl rfl ?_
    refine ac_sld C hz (by omega) (by omega) dL_law_29 ?_
    refine ac_bipush C dL_law_30 (by decide) (by decide +kernel) ?_
    refine ac_iand (z := (Int32.ofInt (xs i.toNat).toInt &&& Int32.ofInt 31).toInt) C dL_law_32 ⟨Int32.le_toInt _, by have := Int32.toInt_lt (Int32.ofInt (xs i.toNat).toInt &&& Int32.ofInt 31); omega⟩ (Int32.ofInt_toInt _).symm ?_
    generalize (Int32.ofInt (xs i.toNat).toInt &&& Int32.ofInt 31).toInt = y
    by_cases hy : 0 ≤ y ∧ y ≤ 23
    · have hyc : y = 0 ∨ y = 1 ∨ y = 2 ∨ y = 3 ∨ y = 4 ∨ y = 5 ∨ y = 6 ∨ y = 7 ∨ y = 8 ∨ y = 9 ∨ y = 10 ∨ y = 11 ∨ y = 12 ∨ y = 13 ∨ y = 14 ∨ y = 15 ∨ y = 16 ∨ y = 17 ∨ y = 18 ∨ y = 19 ∨ y = 20 ∨ y = 21 ∨ y = 22 ∨ y = 23 := by omega
      rcases hyc with hy2 | hy2 | hy2 | hy2 | hy2 | hy2 | hy2 | hy2 | hy2 | hy2 | hy2 | hy2 | hy2 | hy2 | hy2 | hy2 | hy2 | hy2 | hy2 | hy2 | hy2 | hy2 | hy2 | hy2
      · exact ac_tableIn (off := 111) (tgt := 144) C dL_law_33 (by omega) (by omega) (by rw [hy2]; rfl) rfl (law_0 C hz hroom hW hB i0 (by omega) hL hC hM nx)
      · exact ac_tableIn (off := 144) (tgt := 177) C dL_law_33 (by omega) (by omega) (by rw [hy2]; rfl) rfl (law_1 C hz hroom hW hB i0 (by omega) hL hC hM nx)
      · exact ac_tableIn (off := 207) (tgt := 240) C dL_law_33 (by omega) (by omega) (by rw [hy2]; rfl) rfl (law_2 C hz hroom hW hB i0 (by omega) hL hC hM nx)
      · exact ac_tableIn (off := 220) (tgt := 253) C dL_law_33 (by omega) (by omega) (by rw [hy2]; rfl) rfl (law_3 C hz hroom hW hB i0 (by omega) hL hC hM nx)
      · exact ac_tableIn (off := 233) (tgt := 266) C dL_law_33 (by omega) (by omega) (by rw [hy2]; rfl) rfl (law_4 C hz hroom hW hB i0 (by omega) hL hC hM nx)
      · exact ac_tableIn (off := 266) (tgt := 299) C dL_law_33 (by omega) (by omega) (by rw [hy2]; rfl) rfl (law_5 C hz hroom hW hB i0 (by omega) hL hC hM nx)
      · exact ac_tableIn (off := 289) (tgt := 322) C dL_law_33 (by omega) (by omega) (by rw [hy2]; rfl) rfl (law_6 C hz hroom hW hB i0 (by omega) hL hC hM nx)
      · exact ac_tableIn (off := 312) (tgt := 345) C dL_law_33 (by omega) (by omega) (by rw [hy2]; rfl) rfl (law_7 C hz hroom hW hB i0 (by omega) hL hC hM nx)
      · exact ac_tableIn (off := 345) (tgt := 378) C dL_law_33 (by omega) (by omega) (by rw [hy2]; rfl) rfl (law_8 C hz hroom hW hB i0 (by omega) hL hC hM nx)
      · exact ac_tableIn (off := 378) (tgt := 411) C dL_law_33 (by omega) (by omega) (by rw [hy2]; rfl) rfl (law_9 C hz hroom hW hB i0 (by omega) hL hC hM nx)
      · exact ac_tableIn (off := 421) (tgt := 454) C dL_law_33 (by omega) (by omega) (by rw [hy2]; rfl) rfl (law_10 C hz hroom hW hB i0 (by omega) hL hC hM nx)
      · exact ac_tableIn (off := 454) (tgt := 487) C dL_law_33 (by omega) (by omega) (by rw [hy2]; rfl) rfl (law_11 C hz hroom hW hB i0 (by omega) hL hC hM nx)
      · exact ac_tableIn (off := 517) (tgt := 550) C dL_law_33 (by omega) (by omega) (by rw [hy2]; rfl) rfl (law_12 C hz hroom hW hB i0 (by omega) hL hC hM nx)
      · exact ac_tableIn (off := 540) (tgt := 573) C dL_law_33 (by omega) (by omega) (by rw [hy2]; rfl) rfl (law_13 C hz hroom hW hB i0 (by omega) hL hC hM nx)
      · exact ac_tableIn (off := 563) (tgt := 596) C dL_law_33 (by omega) (by omega) (by rw [hy2]; rfl) rfl (law_14 C hz hroom hW hB i0 (by omega) hL hC hM nx)
      · exact ac_tableIn (off := 576) (tgt := 609) C dL_law_33 (by omega) (by omega) (by rw [hy2]; rfl) rfl (law_15 C hz hroom hW hB i0 (by omega) hL hC hM nx)
      · exact ac_tableIn (off := 589) (tgt := 622) C dL_law_33 (by omega) (by omega) (by rw [hy2]; rfl) rfl (law_16 C hz hroom hW hB i0 (by omega) hL hC hM nx)
      · exact ac_tableIn (off := 622) (tgt := 655) C dL_law_33 (by omega) (by omega) (by rw [hy2]; rfl) rfl (law_17 C hz hroom hW hB i0 (by omega) hL hC hM nx)
      · exact ac_tableIn (off := 635) (tgt := 668) C dL_law_33 (by omega) (by omega) (by rw [hy2]; rfl) rfl (law_18 C hz hroom hW hB i0 (by omega) hL hC hM nx)
      · exact ac_tableIn (off := 668) (tgt := 701) C dL_law_33 (by omega) (by omega) (by rw [hy2]; rfl) rfl (law_19 C hz hroom hW hB i0 (by omega) hL hC hM nx)
      · exact ac_tableIn (off := 691) (tgt := 724) C dL_law_33 (by omega) (by omega) (by rw [hy2]; rfl) rfl (law_20 C hz hroom hW hB i0 (by omega) hL hC hM nx)
      · exact ac_tableIn (off := 734) (tgt := 767) C dL_law_33 (by omega) (by omega) (by rw [hy2]; rfl) rfl (law_21 C hz hroom hW hB i0 (by omega) hL hC hM nx)
      · exact ac_tableIn (off := 757) (tgt := 790) C dL_law_33 (by omega) (by omega) (by rw [hy2]; rfl) rfl (law_22 C hz hroom hW hB i0 (by omega) hL hC hM nx)
      · exact ac_tableIn (off := 810) (tgt := 843) C dL_law_33 (by omega) (by omega) (by rw [hy2]; rfl) rfl (law_23 C hz hroom hW hB i0 (by omega) hL hC hM nx)
    · exact ac_tableOut (tgt := 896) C dL_law_33 (by omega) rfl (nx M a hC hM)
