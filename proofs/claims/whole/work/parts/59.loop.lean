/-! THE LAW: each call of both, and the loop -/
set_option maxHeartbeats 4000000 in
set_option maxRecDepth 100000 in
theorem lw_begin (E : gm_E) {X : gm_X} {c0 : Cond} {b L i : Nat} {xs : Nat → Int32} (hL : L ≤ 2048) (hC : gm_ok X E code 4 RL (c0 :: gw_T) room_1) (hB : gm_scr X b L xs) (hi : i + 4 ≤ L) (NX : ∀ (σ : gm_S) n ps U V, kInv σ n ps U V → mG σ n ps U V → gm_G X E 4 476 [some (.ref b), some (.ref (E.2.2 0)), some (.ref (E.2.2 5)), some (.int (nI i))] [] σ) (σ : gm_S) (n : Nat) (ps : Nat → Bool) (U V : Nat → Nat) (hI : kInv σ n ps U V) (hM : mG σ n ps U V) : gm_G X E 4 104 [some (.ref b), some (.ref (E.2.2 0)), some (.ref (E.2.2 5)), some (.int (nI i))] [] σ := by
  have hg := gOK_k hI
  refine gi_aldn hC dL_law_104 rfl ?_
  refine gi_aldn hC dL_law_105 rfl ?_
  refine gi_ildn hC dL_law_106 rfl ?_
  refine gi_const hC (v := 1) dL_law_107 (by decide) ?_
  refine gi_iadd hC dL_law_108 ?_
  refine gi_sld hC hB (j := i + 1) (nI_add i 1) (by omega) (by omega) dL_law_109 ?_
  refine gk_VI (n := 1) hC (fun l => c_X3_begin l E σ n ps U V hI (xs (i + 1))) (gm_o3 E) rfl (gw_V gw_136 gw_137 gw_138 gw_23 gw_139) rfl ⟨rfl, rfl⟩ rfl (by decide +kernel) ⟨by decide, by decide⟩ (Nat.le_of_ble_eq_true rfl) dL_law_110 (fun r1 σ1 h1 => ?_)
  obtain ⟨f1, h1⟩ := h1
  have hM1 := mG_k f1 hM
  refine gi_aldn hC dL_law_113 rfl ?_
  refine gi_aldn hC dL_law_114 rfl ?_
  refine gi_ildn hC dL_law_115 rfl ?_
  refine gi_const hC (v := 1) dL_law_116 (by decide) ?_
  refine gi_iadd hC dL_law_117 ?_
  refine gi_sld hC hB (j := i + 1) (nI_add i 1) (by omega) (by omega) dL_law_118 ?_
  refine gk_VI (n := 1) hC (fun l => c_X4_begin l E σ1 n ps U V hM1 (xs (i + 1))) (gm_o4 E) rfl (gw_V gw_351 gw_352 gw_353 gw_28 gw_354) rfl ⟨rfl, rfl⟩ rfl (by decide +kernel) ⟨by decide, by decide⟩ (Nat.le_of_ble_eq_true rfl) dL_law_119 (fun r2 σ2 h2 => ?_)
  obtain ⟨f2, h2⟩ := h2
  obtain ⟨hr, n2, ps2, U2, V2, hI2, hM2⟩ := a_begin hg.2 h1 h2 f2
  refine gi_icmp_eq hC 476 dL_law_122 (by decide) (fun h3 => ?_) (fun h3 => ?_)
  · exact NX σ2 n2 ps2 U2 V2 hI2 hM2
  · exact absurd hr h3
set_option maxHeartbeats 4000000 in
set_option maxRecDepth 100000 in
theorem lw_join (E : gm_E) {X : gm_X} {c0 : Cond} {b L i : Nat} {xs : Nat → Int32} (hL : L ≤ 2048) (hC : gm_ok X E code 4 RL (c0 :: gw_T) room_1) (hB : gm_scr X b L xs) (hi : i + 4 ≤ L) (NX : ∀ (σ : gm_S) n ps U V, kInv σ n ps U V → mG σ n ps U V → gm_G X E 4 476 [some (.ref b), some (.ref (E.2.2 0)), some (.ref (E.2.2 5)), some (.int (nI i))] [] σ) (σ : gm_S) (n : Nat) (ps : Nat → Bool) (U V : Nat → Nat) (hI : kInv σ n ps U V) (hM : mG σ n ps U V) : gm_G X E 4 127 [some (.ref b), some (.ref (E.2.2 0)), some (.ref (E.2.2 5)), some (.int (nI i))] [] σ := by
  have hg := gOK_k hI
  refine gi_aldn hC dL_law_127 rfl ?_
  refine gi_aldn hC dL_law_128 rfl ?_
  refine gi_ildn hC dL_law_129 rfl ?_
  refine gi_const hC (v := 1) dL_law_130 (by decide) ?_
  refine gi_iadd hC dL_law_131 ?_
  refine gi_sld hC hB (j := i + 1) (nI_add i 1) (by omega) (by omega) dL_law_132 ?_
  refine gi_aldn hC dL_law_133 rfl ?_
  refine gi_ildn hC dL_law_134 rfl ?_
  refine gi_const hC (v := 2) dL_law_135 (by decide) ?_
  refine gi_iadd hC dL_law_136 ?_
  refine gi_sld hC hB (j := i + 2) (nI_add i 2) (by omega) (by omega) dL_law_137 ?_
  refine gk_VI (n := 2) hC (fun l => c_X3_join l E σ n ps U V hI (xs (i + 1)) (xs (i + 2))) (gm_o3 E) rfl (gw_V gw_154 gw_155 gw_156 gw_23 gw_157) rfl ⟨rfl, rfl⟩ rfl (by decide +kernel) ⟨by decide, by decide⟩ (Nat.le_of_ble_eq_true rfl) dL_law_138 (fun r1 σ1 h1 => ?_)
  obtain ⟨f1, h1⟩ := h1
  have hM1 := mG_k f1 hM
  refine gi_aldn hC dL_law_141 rfl ?_
  refine gi_aldn hC dL_law_142 rfl ?_
  refine gi_ildn hC dL_law_143 rfl ?_
  refine gi_const hC (v := 1) dL_law_144 (by decide) ?_
  refine gi_iadd hC dL_law_145 ?_
  refine gi_sld hC hB (j := i + 1) (nI_add i 1) (by omega) (by omega) dL_law_146 ?_
  refine gi_aldn hC dL_law_147 rfl ?_
  refine gi_ildn hC dL_law_148 rfl ?_
  refine gi_const hC (v := 2) dL_law_149 (by decide) ?_
  refine gi_iadd hC dL_law_150 ?_
  refine gi_sld hC hB (j := i + 2) (nI_add i 2) (by omega) (by omega) dL_law_151 ?_
  refine gk_VI (n := 2) hC (fun l => c_X4_join l E σ1 n ps U V hM1 (xs (i + 1)) (xs (i + 2))) (gm_o4 E) rfl (gw_V gw_362 gw_363 gw_364 gw_28 gw_365) rfl ⟨rfl, rfl⟩ rfl (by decide +kernel) ⟨by decide, by decide⟩ (Nat.le_of_ble_eq_true rfl) dL_law_152 (fun r2 σ2 h2 => ?_)
  obtain ⟨f2, h2⟩ := h2
  obtain ⟨hr, n2, ps2, U2, V2, hI2, hM2⟩ := a_join hg.1.2.1 h1 h2 f2
  refine gi_icmp_eq hC 476 dL_law_155 (by decide) (fun h3 => ?_) (fun h3 => ?_)
  · exact NX σ2 n2 ps2 U2 V2 hI2 hM2
  · exact absurd hr h3
set_option maxHeartbeats 4000000 in
set_option maxRecDepth 100000 in
theorem lw_cut (E : gm_E) {X : gm_X} {c0 : Cond} {b L i : Nat} {xs : Nat → Int32} (hL : L ≤ 2048) (hC : gm_ok X E code 4 RL (c0 :: gw_T) room_1) (hB : gm_scr X b L xs) (hi : i + 4 ≤ L) (NX : ∀ (σ : gm_S) n ps U V, kInv σ n ps U V → mG σ n ps U V → gm_G X E 4 476 [some (.ref b), some (.ref (E.2.2 0)), some (.ref (E.2.2 5)), some (.int (nI i))] [] σ) (σ : gm_S) (n : Nat) (ps : Nat → Bool) (U V : Nat → Nat) (hI : kInv σ n ps U V) (hM : mG σ n ps U V) : gm_G X E 4 160 [some (.ref b), some (.ref (E.2.2 0)), some (.ref (E.2.2 5)), some (.int (nI i))] [] σ := by
  have hg := gOK_k hI
  refine gi_aldn hC dL_law_160 rfl ?_
  refine gi_aldn hC dL_law_161 rfl ?_
  refine gi_ildn hC dL_law_162 rfl ?_
  refine gi_const hC (v := 1) dL_law_163 (by decide) ?_
  refine gi_iadd hC dL_law_164 ?_
  refine gi_sld hC hB (j := i + 1) (nI_add i 1) (by omega) (by omega) dL_law_165 ?_
  refine gk_VI (n := 1) hC (fun l => c_X3_cut l E σ n ps U V hI (xs (i + 1))) (gm_o3 E) rfl (gw_V gw_174 gw_175 gw_176 gw_23 gw_177) rfl ⟨rfl, rfl⟩ rfl (by decide +kernel) ⟨by decide, by decide⟩ (Nat.le_of_ble_eq_true rfl) dL_law_166 (fun r1 σ1 h1 => ?_)
  obtain ⟨f1, h1⟩ := h1
  have hM1 := mG_k f1 hM
  refine gi_aldn hC dL_law_169 rfl ?_
  refine gi_aldn hC dL_law_170 rfl ?_
  refine gi_ildn hC dL_law_171 rfl ?_
  refine gi_const hC (v := 1) dL_law_172 (by decide) ?_
  refine gi_iadd hC dL_law_173 ?_
  refine gi_sld hC hB (j := i + 1) (nI_add i 1) (by omega) (by omega) dL_law_174 ?_
  refine gk_VI (n := 1) hC (fun l => c_X4_cut l E σ1 n ps U V hM1 (xs (i + 1))) (gm_o4 E) rfl (gw_V gw_370 gw_371 gw_372 gw_28 gw_373) rfl ⟨rfl, rfl⟩ rfl (by decide +kernel) ⟨by decide, by decide⟩ (Nat.le_of_ble_eq_true rfl) dL_law_175 (fun r2 σ2 h2 => ?_)
  obtain ⟨f2, h2⟩ := h2
  obtain ⟨hr, n2, ps2, U2, V2, hI2, hM2⟩ := a_cut h1 h2 f2
  refine gi_icmp_eq hC 476 dL_law_178 (by decide) (fun h3 => ?_) (fun h3 => ?_)
  · exact NX σ2 n2 ps2 U2 V2 hI2 hM2
  · exact absurd hr h3
set_option maxHeartbeats 4000000 in
set_option maxRecDepth 100000 in
theorem lw_most (E : gm_E) {X : gm_X} {c0 : Cond} {b L i : Nat} {xs : Nat → Int32} (hL : L ≤ 2048) (hC : gm_ok X E code 4 RL (c0 :: gw_T) room_1) (hB : gm_scr X b L xs) (hi : i + 4 ≤ L) (NX : ∀ (σ : gm_S) n ps U V, kInv σ n ps U V → mG σ n ps U V → gm_G X E 4 476 [some (.ref b), some (.ref (E.2.2 0)), some (.ref (E.2.2 5)), some (.int (nI i))] [] σ) (σ : gm_S) (n : Nat) (ps : Nat → Bool) (U V : Nat → Nat) (hI : kInv σ n ps U V) (hM : mG σ n ps U V) : gm_G X E 4 183 [some (.ref b), some (.ref (E.2.2 0)), some (.ref (E.2.2 5)), some (.int (nI i))] [] σ := by
  have hg := gOK_k hI
  refine gi_aldn hC dL_law_183 rfl ?_
  refine gi_aldn hC dL_law_184 rfl ?_
  refine gi_ildn hC dL_law_185 rfl ?_
  refine gi_const hC (v := 1) dL_law_186 (by decide) ?_
  refine gi_iadd hC dL_law_187 ?_
  refine gi_sld hC hB (j := i + 1) (nI_add i 1) (by omega) (by omega) dL_law_188 ?_
  refine gk_VI (n := 1) hC (fun l => c_X3_most l E σ n ps U V hI (xs (i + 1))) (gm_o3 E) rfl (gw_V gw_179 gw_180 gw_181 gw_23 gw_182) rfl ⟨rfl, rfl⟩ rfl (by decide +kernel) ⟨by decide, by decide⟩ (Nat.le_of_ble_eq_true rfl) dL_law_189 (fun r1 σ1 h1 => ?_)
  obtain ⟨f1, k1, h1⟩ := h1
  have hM1 := mG_k f1 hM
  refine gi_aldn hC dL_law_192 rfl ?_
  refine gi_aldn hC dL_law_193 rfl ?_
  refine gi_ildn hC dL_law_194 rfl ?_
  refine gi_const hC (v := 1) dL_law_195 (by decide) ?_
  refine gi_iadd hC dL_law_196 ?_
  refine gi_sld hC hB (j := i + 1) (nI_add i 1) (by omega) (by omega) dL_law_197 ?_
  refine gk_VI (n := 1) hC (fun l => c_X4_most l E σ1 n ps U V hM1 (xs (i + 1))) (gm_o4 E) rfl (gw_V gw_378 gw_379 gw_380 gw_28 gw_381) rfl ⟨rfl, rfl⟩ rfl (by decide +kernel) ⟨by decide, by decide⟩ (Nat.le_of_ble_eq_true rfl) dL_law_198 (fun r2 σ2 h2 => ?_)
  obtain ⟨f2, h2⟩ := h2
  have hI2 := hFR_k f2 k1
  have hM2 := mG_h f2 hM1
  have hr : r1 = r2 := a_most hg.1 h1 h2
  refine gi_icmp_eq hC 476 dL_law_201 (by decide) (fun h3 => ?_) (fun h3 => ?_)
  · exact NX σ2 n ps U V hI2 hM2
  · exact absurd hr h3
set_option maxHeartbeats 4000000 in
set_option maxRecDepth 100000 in
theorem lw_held (E : gm_E) {X : gm_X} {c0 : Cond} {b L i : Nat} {xs : Nat → Int32} (hL : L ≤ 2048) (hC : gm_ok X E code 4 RL (c0 :: gw_T) room_1) (hB : gm_scr X b L xs) (hi : i + 4 ≤ L) (NX : ∀ (σ : gm_S) n ps U V, kInv σ n ps U V → mG σ n ps U V → gm_G X E 4 476 [some (.ref b), some (.ref (E.2.2 0)), some (.ref (E.2.2 5)), some (.int (nI i))] [] σ) (σ : gm_S) (n : Nat) (ps : Nat → Bool) (U V : Nat → Nat) (hI : kInv σ n ps U V) (hM : mG σ n ps U V) : gm_G X E 4 206 [some (.ref b), some (.ref (E.2.2 0)), some (.ref (E.2.2 5)), some (.int (nI i))] [] σ := by
  have hg := gOK_k hI
  refine gi_aldn hC dL_law_206 rfl ?_
  refine gi_aldn hC dL_law_207 rfl ?_
  refine gi_ildn hC dL_law_208 rfl ?_
  refine gi_const hC (v := 1) dL_law_209 (by decide) ?_
  refine gi_iadd hC dL_law_210 ?_
  refine gi_sld hC hB (j := i + 1) (nI_add i 1) (by omega) (by omega) dL_law_211 ?_
  refine gi_aldn hC dL_law_212 rfl ?_
  refine gi_ildn hC dL_law_213 rfl ?_
  refine gi_const hC (v := 2) dL_law_214 (by decide) ?_
  refine gi_iadd hC dL_law_215 ?_
  refine gi_sld hC hB (j := i + 2) (nI_add i 2) (by omega) (by omega) dL_law_216 ?_
  refine gk_VI (n := 2) hC (fun l => c_X3_held l E σ n ps U V hI (xs (i + 1)) (xs (i + 2))) (gm_o3 E) rfl (gw_V gw_239 gw_240 gw_241 gw_23 gw_242) rfl ⟨rfl, rfl⟩ rfl (by decide +kernel) ⟨by decide, by decide⟩ (Nat.le_of_ble_eq_true rfl) dL_law_217 (fun r1 σ1 h1 => ?_)
  obtain ⟨f1, k1, h1⟩ := h1
  have hM1 := mG_k f1 hM
  refine gi_aldn hC dL_law_220 rfl ?_
  refine gi_aldn hC dL_law_221 rfl ?_
  refine gi_ildn hC dL_law_222 rfl ?_
  refine gi_const hC (v := 1) dL_law_223 (by decide) ?_
  refine gi_iadd hC dL_law_224 ?_
  refine gi_sld hC hB (j := i + 1) (nI_add i 1) (by omega) (by omega) dL_law_225 ?_
  refine gi_aldn hC dL_law_226 rfl ?_
  refine gi_ildn hC dL_law_227 rfl ?_
  refine gi_const hC (v := 2) dL_law_228 (by decide) ?_
  refine gi_iadd hC dL_law_229 ?_
  refine gi_sld hC hB (j := i + 2) (nI_add i 2) (by omega) (by omega) dL_law_230 ?_
  refine gk_VI (n := 2) hC (fun l => c_X4_held l E σ1 n ps U V hM1 (xs (i + 1)) (xs (i + 2))) (gm_o4 E) rfl (gw_V gw_404 gw_405 gw_406 gw_28 gw_407) rfl ⟨rfl, rfl⟩ rfl (by decide +kernel) ⟨by decide, by decide⟩ (Nat.le_of_ble_eq_true rfl) dL_law_231 (fun r2 σ2 h2 => ?_)
  obtain ⟨f2, h2⟩ := h2
  have hI2 := hFR_k f2 k1
  have hM2 := mG_h f2 hM1
  have hr : r1 = r2 := a_held hg.1 h1 h2
  refine gi_icmp_eq hC 476 dL_law_234 (by decide) (fun h3 => ?_) (fun h3 => ?_)
  · exact NX σ2 n ps U V hI2 hM2
  · exact absurd hr h3
set_option maxHeartbeats 4000000 in
set_option maxRecDepth 100000 in
theorem lw_forest (E : gm_E) {X : gm_X} {c0 : Cond} {b L i : Nat} {xs : Nat → Int32} (hL : L ≤ 2048) (hC : gm_ok X E code 4 RL (c0 :: gw_T) room_1) (hB : gm_scr X b L xs) (hi : i + 4 ≤ L) (NX : ∀ (σ : gm_S) n ps U V, kInv σ n ps U V → mG σ n ps U V → gm_G X E 4 476 [some (.ref b), some (.ref (E.2.2 0)), some (.ref (E.2.2 5)), some (.int (nI i))] [] σ) (σ : gm_S) (n : Nat) (ps : Nat → Bool) (U V : Nat → Nat) (hI : kInv σ n ps U V) (hM : mG σ n ps U V) : gm_G X E 4 239 [some (.ref b), some (.ref (E.2.2 0)), some (.ref (E.2.2 5)), some (.int (nI i))] [] σ := by
  have hg := gOK_k hI
  refine gi_aldn hC dL_law_239 rfl ?_
  refine gi_aldn hC dL_law_240 rfl ?_
  refine gi_ildn hC dL_law_241 rfl ?_
  refine gi_const hC (v := 1) dL_law_242 (by decide) ?_
  refine gi_iadd hC dL_law_243 ?_
  refine gi_sld hC hB (j := i + 1) (nI_add i 1) (by omega) (by omega) dL_law_244 ?_
  refine gi_aldn hC dL_law_245 rfl ?_
  refine gi_ildn hC dL_law_246 rfl ?_
  refine gi_const hC (v := 2) dL_law_247 (by decide) ?_
  refine gi_iadd hC dL_law_248 ?_
  refine gi_sld hC hB (j := i + 2) (nI_add i 2) (by omega) (by omega) dL_law_249 ?_
  refine gk_VI (n := 2) hC (fun l => c_X3_forest l E σ n ps U V hI (xs (i + 1)) (xs (i + 2))) (gm_o3 E) rfl (gw_V gw_243 gw_244 gw_245 gw_23 gw_246) rfl ⟨rfl, rfl⟩ rfl (by decide +kernel) ⟨by decide, by decide⟩ (Nat.le_of_ble_eq_true rfl) dL_law_250 (fun r1 σ1 h1 => ?_)
  obtain ⟨f1, k1, h1⟩ := h1
  have hM1 := mG_k f1 hM
  refine gi_aldn hC dL_law_253 rfl ?_
  refine gi_aldn hC dL_law_254 rfl ?_
  refine gi_ildn hC dL_law_255 rfl ?_
  refine gi_const hC (v := 1) dL_law_256 (by decide) ?_
  refine gi_iadd hC dL_law_257 ?_
  refine gi_sld hC hB (j := i + 1) (nI_add i 1) (by omega) (by omega) dL_law_258 ?_
  refine gi_aldn hC dL_law_259 rfl ?_
  refine gi_ildn hC dL_law_260 rfl ?_
  refine gi_const hC (v := 2) dL_law_261 (by decide) ?_
  refine gi_iadd hC dL_law_262 ?_
  refine gi_sld hC hB (j := i + 2) (nI_add i 2) (by omega) (by omega) dL_law_263 ?_
  refine gk_VI (n := 2) hC (fun l => c_X4_forest l E σ1 n ps U V hM1 (fun kk _ => hdd_fit hg.1 kk) (xs (i + 1)) (xs (i + 2))) (gm_o4 E) rfl (gw_V gw_408 gw_409 gw_410 gw_28 gw_411) rfl ⟨rfl, rfl⟩ rfl (by decide +kernel) ⟨by decide, by decide⟩ (Nat.le_of_ble_eq_true rfl) dL_law_264 (fun r2 σ2 h2 => ?_)
  obtain ⟨f2, hM2, h2⟩ := h2
  have hI2 := kInv_m f2 k1
  have hr : r1 = r2 := a_forest hg.1 h1 h2
  refine gi_icmp_eq hC 476 dL_law_267 (by decide) (fun h3 => ?_) (fun h3 => ?_)
  · exact NX σ2 n ps U V hI2 hM2
  · exact absurd hr h3
set_option maxHeartbeats 4000000 in
set_option maxRecDepth 100000 in
theorem lw_why (E : gm_E) {X : gm_X} {c0 : Cond} {b L i : Nat} {xs : Nat → Int32} (hL : L ≤ 2048) (hC : gm_ok X E code 4 RL (c0 :: gw_T) room_1) (hB : gm_scr X b L xs) (hi : i + 4 ≤ L) (NX : ∀ (σ : gm_S) n ps U V, kInv σ n ps U V → mG σ n ps U V → gm_G X E 4 476 [some (.ref b), some (.ref (E.2.2 0)), some (.ref (E.2.2 5)), some (.int (nI i))] [] σ) (σ : gm_S) (n : Nat) (ps : Nat → Bool) (U V : Nat → Nat) (hI : kInv σ n ps U V) (hM : mG σ n ps U V) : gm_G X E 4 272 [some (.ref b), some (.ref (E.2.2 0)), some (.ref (E.2.2 5)), some (.int (nI i))] [] σ := by
  have hg := gOK_k hI
  refine gi_aldn hC dL_law_272 rfl ?_
  refine gi_aldn hC dL_law_273 rfl ?_
  refine gi_ildn hC dL_law_274 rfl ?_
  refine gi_const hC (v := 1) dL_law_275 (by decide) ?_
  refine gi_iadd hC dL_law_276 ?_
  refine gi_sld hC hB (j := i + 1) (nI_add i 1) (by omega) (by omega) dL_law_277 ?_
  refine gi_aldn hC dL_law_278 rfl ?_
  refine gi_ildn hC dL_law_279 rfl ?_
  refine gi_const hC (v := 2) dL_law_280 (by decide) ?_
  refine gi_iadd hC dL_law_281 ?_
  refine gi_sld hC hB (j := i + 2) (nI_add i 2) (by omega) (by omega) dL_law_282 ?_
  refine gi_aldn hC dL_law_283 rfl ?_
  refine gi_ildn hC dL_law_284 rfl ?_
  refine gi_const hC (v := 3) dL_law_285 (by decide) ?_
  refine gi_iadd hC dL_law_286 ?_
  refine gi_sld hC hB (j := i + 3) (nI_add i 3) (by omega) (by omega) dL_law_287 ?_
  refine gk_VI (n := 3) hC (fun l => c_X3_why l E σ n ps U V hI (xs (i + 1)) (xs (i + 2)) (xs (i + 3))) (gm_o3 E) rfl (gw_V gw_258 gw_259 gw_260 gw_23 gw_261) rfl ⟨rfl, rfl⟩ rfl (by decide +kernel) ⟨by decide, by decide⟩ (Nat.le_of_ble_eq_true rfl) dL_law_288 (fun r1 σ1 h1 => ?_)
  obtain ⟨f1, k1, h1⟩ := h1
  have hM1 := mG_k f1 hM
  refine gi_aldn hC dL_law_291 rfl ?_
  refine gi_aldn hC dL_law_292 rfl ?_
  refine gi_ildn hC dL_law_293 rfl ?_
  refine gi_const hC (v := 1) dL_law_294 (by decide) ?_
  refine gi_iadd hC dL_law_295 ?_
  refine gi_sld hC hB (j := i + 1) (nI_add i 1) (by omega) (by omega) dL_law_296 ?_
  refine gi_aldn hC dL_law_297 rfl ?_
  refine gi_ildn hC dL_law_298 rfl ?_
  refine gi_const hC (v := 2) dL_law_299 (by decide) ?_
  refine gi_iadd hC dL_law_300 ?_
  refine gi_sld hC hB (j := i + 2) (nI_add i 2) (by omega) (by omega) dL_law_301 ?_
  refine gi_aldn hC dL_law_302 rfl ?_
  refine gi_ildn hC dL_law_303 rfl ?_
  refine gi_const hC (v := 3) dL_law_304 (by decide) ?_
  refine gi_iadd hC dL_law_305 ?_
  refine gi_sld hC hB (j := i + 3) (nI_add i 3) (by omega) (by omega) dL_law_306 ?_
  refine gk_VI (n := 3) hC (fun l => c_X4_why l E σ1 n ps U V hM1 (xs (i + 1)) (xs (i + 2)) (xs (i + 3))) (gm_o4 E) rfl (gw_V gw_432 gw_433 gw_434 gw_28 gw_435) rfl ⟨rfl, rfl⟩ rfl (by decide +kernel) ⟨by decide, by decide⟩ (Nat.le_of_ble_eq_true rfl) dL_law_307 (fun r2 σ2 h2 => ?_)
  obtain ⟨f2, h2⟩ := h2
  have hI2 := hFR_k f2 k1
  have hM2 := mG_h f2 hM1
  have hr : r1 = r2 := a_why hg.1 h1 h2
  refine gi_icmp_eq hC 476 dL_law_310 (by decide) (fun h3 => ?_) (fun h3 => ?_)
  · exact NX σ2 n ps U V hI2 hM2
  · exact absurd hr h3
set_option maxHeartbeats 4000000 in
set_option maxRecDepth 100000 in
theorem lw_tight (E : gm_E) {X : gm_X} {c0 : Cond} {b L i : Nat} {xs : Nat → Int32} (hL : L ≤ 2048) (hC : gm_ok X E code 4 RL (c0 :: gw_T) room_1) (hB : gm_scr X b L xs) (hi : i + 4 ≤ L) (NX : ∀ (σ : gm_S) n ps U V, kInv σ n ps U V → mG σ n ps U V → gm_G X E 4 476 [some (.ref b), some (.ref (E.2.2 0)), some (.ref (E.2.2 5)), some (.int (nI i))] [] σ) (σ : gm_S) (n : Nat) (ps : Nat → Bool) (U V : Nat → Nat) (hI : kInv σ n ps U V) (hM : mG σ n ps U V) : gm_G X E 4 315 [some (.ref b), some (.ref (E.2.2 0)), some (.ref (E.2.2 5)), some (.int (nI i))] [] σ := by
  have hg := gOK_k hI
  refine gi_aldn hC dL_law_315 rfl ?_
  refine gi_aldn hC dL_law_316 rfl ?_
  refine gi_ildn hC dL_law_317 rfl ?_
  refine gi_const hC (v := 1) dL_law_318 (by decide) ?_
  refine gi_iadd hC dL_law_319 ?_
  refine gi_sld hC hB (j := i + 1) (nI_add i 1) (by omega) (by omega) dL_law_320 ?_
  refine gi_aldn hC dL_law_321 rfl ?_
  refine gi_ildn hC dL_law_322 rfl ?_
  refine gi_const hC (v := 2) dL_law_323 (by decide) ?_
  refine gi_iadd hC dL_law_324 ?_
  refine gi_sld hC hB (j := i + 2) (nI_add i 2) (by omega) (by omega) dL_law_325 ?_
  refine gi_aldn hC dL_law_326 rfl ?_
  refine gi_ildn hC dL_law_327 rfl ?_
  refine gi_const hC (v := 3) dL_law_328 (by decide) ?_
  refine gi_iadd hC dL_law_329 ?_
  refine gi_sld hC hB (j := i + 3) (nI_add i 3) (by omega) (by omega) dL_law_330 ?_
  refine gk_VI (n := 3) hC (fun l => c_X3_tight l E σ n ps U V hI (xs (i + 1)) (xs (i + 2)) (xs (i + 3))) (gm_o3 E) rfl (gw_V gw_267 gw_268 gw_269 gw_23 gw_270) rfl ⟨rfl, rfl⟩ rfl (by decide +kernel) ⟨by decide, by decide⟩ (Nat.le_of_ble_eq_true rfl) dL_law_331 (fun r1 σ1 h1 => ?_)
  obtain ⟨f1, k1, h1⟩ := h1
  have hM1 := mG_k f1 hM
  refine gi_aldn hC dL_law_334 rfl ?_
  refine gi_aldn hC dL_law_335 rfl ?_
  refine gi_ildn hC dL_law_336 rfl ?_
  refine gi_const hC (v := 1) dL_law_337 (by decide) ?_
  refine gi_iadd hC dL_law_338 ?_
  refine gi_sld hC hB (j := i + 1) (nI_add i 1) (by omega) (by omega) dL_law_339 ?_
  refine gi_aldn hC dL_law_340 rfl ?_
  refine gi_ildn hC dL_law_341 rfl ?_
  refine gi_const hC (v := 2) dL_law_342 (by decide) ?_
  refine gi_iadd hC dL_law_343 ?_
  refine gi_sld hC hB (j := i + 2) (nI_add i 2) (by omega) (by omega) dL_law_344 ?_
  refine gi_aldn hC dL_law_345 rfl ?_
  refine gi_ildn hC dL_law_346 rfl ?_
  refine gi_const hC (v := 3) dL_law_347 (by decide) ?_
  refine gi_iadd hC dL_law_348 ?_
  refine gi_sld hC hB (j := i + 3) (nI_add i 3) (by omega) (by omega) dL_law_349 ?_
  refine gk_VI (n := 3) hC (fun l => c_X4_tight l E σ1 n ps U V hM1 (xs (i + 1)) (xs (i + 2)) (xs (i + 3))) (gm_o4 E) rfl (gw_V gw_440 gw_441 gw_442 gw_28 gw_443) rfl ⟨rfl, rfl⟩ rfl (by decide +kernel) ⟨by decide, by decide⟩ (Nat.le_of_ble_eq_true rfl) dL_law_350 (fun r2 σ2 h2 => ?_)
  obtain ⟨f2, h2⟩ := h2
  have hI2 := hFR_k f2 k1
  have hM2 := mG_h f2 hM1
  have hr : r1 = r2 := a_tight hg.1 h1 h2
  refine gi_icmp_eq hC 476 dL_law_353 (by decide) (fun h3 => ?_) (fun h3 => ?_)
  · exact NX σ2 n ps U V hI2 hM2
  · exact absurd hr h3
set_option maxHeartbeats 4000000 in
set_option maxRecDepth 100000 in
theorem lw_classes (E : gm_E) {X : gm_X} {c0 : Cond} {b L i : Nat} {xs : Nat → Int32} (hL : L ≤ 2048) (hC : gm_ok X E code 4 RL (c0 :: gw_T) room_1) (hB : gm_scr X b L xs) (hi : i + 4 ≤ L) (NX : ∀ (σ : gm_S) n ps U V, kInv σ n ps U V → mG σ n ps U V → gm_G X E 4 476 [some (.ref b), some (.ref (E.2.2 0)), some (.ref (E.2.2 5)), some (.int (nI i))] [] σ) (σ : gm_S) (n : Nat) (ps : Nat → Bool) (U V : Nat → Nat) (hI : kInv σ n ps U V) (hM : mG σ n ps U V) : gm_G X E 4 358 [some (.ref b), some (.ref (E.2.2 0)), some (.ref (E.2.2 5)), some (.int (nI i))] [] σ := by
  have hg := gOK_k hI
  refine gi_aldn hC dL_law_358 rfl ?_
  refine gi_aldn hC dL_law_359 rfl ?_
  refine gi_ildn hC dL_law_360 rfl ?_
  refine gi_const hC (v := 1) dL_law_361 (by decide) ?_
  refine gi_iadd hC dL_law_362 ?_
  refine gi_sld hC hB (j := i + 1) (nI_add i 1) (by omega) (by omega) dL_law_363 ?_
  refine gk_VI (n := 1) hC (fun l => c_X3_classes l E σ n ps U V hI (xs (i + 1))) (gm_o3 E) rfl (gw_V gw_272 gw_273 gw_274 gw_23 gw_275) rfl ⟨rfl, rfl⟩ rfl (by decide +kernel) ⟨by decide, by decide⟩ (Nat.le_of_ble_eq_true rfl) dL_law_364 (fun r1 σ1 h1 => ?_)
  obtain ⟨f1, k1, h1⟩ := h1
  have hM1 := mG_k f1 hM
  refine gi_aldn hC dL_law_367 rfl ?_
  refine gi_aldn hC dL_law_368 rfl ?_
  refine gi_ildn hC dL_law_369 rfl ?_
  refine gi_const hC (v := 1) dL_law_370 (by decide) ?_
  refine gi_iadd hC dL_law_371 ?_
  refine gi_sld hC hB (j := i + 1) (nI_add i 1) (by omega) (by omega) dL_law_372 ?_
  refine gk_VI (n := 1) hC (fun l => c_X4_classes l E σ1 n ps U V hM1 (xs (i + 1))) (gm_o4 E) rfl (gw_V gw_448 gw_449 gw_450 gw_28 gw_451) rfl ⟨rfl, rfl⟩ rfl (by decide +kernel) ⟨by decide, by decide⟩ (Nat.le_of_ble_eq_true rfl) dL_law_373 (fun r2 σ2 h2 => ?_)
  obtain ⟨f2, h2⟩ := h2
  have hI2 := hFR_k f2 k1
  have hM2 := mG_h f2 hM1
  have hr : r1 = r2 := a_classes hg.1 h1 h2
  refine gi_icmp_eq hC 476 dL_law_376 (by decide) (fun h3 => ?_) (fun h3 => ?_)
  · exact NX σ2 n ps U V hI2 hM2
  · exact absurd hr h3
set_option maxHeartbeats 4000000 in
set_option maxRecDepth 100000 in
theorem lw_crossing (E : gm_E) {X : gm_X} {c0 : Cond} {b L i : Nat} {xs : Nat → Int32} (hL : L ≤ 2048) (hC : gm_ok X E code 4 RL (c0 :: gw_T) room_1) (hB : gm_scr X b L xs) (hi : i + 4 ≤ L) (NX : ∀ (σ : gm_S) n ps U V, kInv σ n ps U V → mG σ n ps U V → gm_G X E 4 476 [some (.ref b), some (.ref (E.2.2 0)), some (.ref (E.2.2 5)), some (.int (nI i))] [] σ) (σ : gm_S) (n : Nat) (ps : Nat → Bool) (U V : Nat → Nat) (hI : kInv σ n ps U V) (hM : mG σ n ps U V) : gm_G X E 4 381 [some (.ref b), some (.ref (E.2.2 0)), some (.ref (E.2.2 5)), some (.int (nI i))] [] σ := by
  have hg := gOK_k hI
  refine gi_aldn hC dL_law_381 rfl ?_
  refine gi_aldn hC dL_law_382 rfl ?_
  refine gi_ildn hC dL_law_383 rfl ?_
  refine gi_const hC (v := 1) dL_law_384 (by decide) ?_
  refine gi_iadd hC dL_law_385 ?_
  refine gi_sld hC hB (j := i + 1) (nI_add i 1) (by omega) (by omega) dL_law_386 ?_
  refine gk_VI (n := 1) hC (fun l => c_X3_crossing l E σ n ps U V hI (xs (i + 1))) (gm_o3 E) rfl (gw_V gw_280 gw_281 gw_282 gw_23 gw_283) rfl ⟨rfl, rfl⟩ rfl (by decide +kernel) ⟨by decide, by decide⟩ (Nat.le_of_ble_eq_true rfl) dL_law_387 (fun r1 σ1 h1 => ?_)
  obtain ⟨f1, k1, h1⟩ := h1
  have hM1 := mG_k f1 hM
  refine gi_aldn hC dL_law_390 rfl ?_
  refine gi_aldn hC dL_law_391 rfl ?_
  refine gi_ildn hC dL_law_392 rfl ?_
  refine gi_const hC (v := 1) dL_law_393 (by decide) ?_
  refine gi_iadd hC dL_law_394 ?_
  refine gi_sld hC hB (j := i + 1) (nI_add i 1) (by omega) (by omega) dL_law_395 ?_
  refine gk_VI (n := 1) hC (fun l => c_X4_crossing l E σ1 n ps U V hM1 (xs (i + 1))) (gm_o4 E) rfl (gw_V gw_452 gw_453 gw_454 gw_28 gw_455) rfl ⟨rfl, rfl⟩ rfl (by decide +kernel) ⟨by decide, by decide⟩ (Nat.le_of_ble_eq_true rfl) dL_law_396 (fun r2 σ2 h2 => ?_)
  obtain ⟨f2, h2⟩ := h2
  have hI2 := hFR_k f2 k1
  have hM2 := mG_h f2 hM1
  have hr : r1 = r2 := a_crossing hg.1 h1 h2
  refine gi_icmp_eq hC 476 dL_law_399 (by decide) (fun h3 => ?_) (fun h3 => ?_)
  · exact NX σ2 n ps U V hI2 hM2
  · exact absurd hr h3
set_option maxHeartbeats 4000000 in
set_option maxRecDepth 100000 in
theorem lw_arboricity (E : gm_E) {X : gm_X} {c0 : Cond} {b L i : Nat} {xs : Nat → Int32} (hL : L ≤ 2048) (hC : gm_ok X E code 4 RL (c0 :: gw_T) room_1) (hB : gm_scr X b L xs) (hi : i + 4 ≤ L) (NX : ∀ (σ : gm_S) n ps U V, kInv σ n ps U V → mG σ n ps U V → gm_G X E 4 476 [some (.ref b), some (.ref (E.2.2 0)), some (.ref (E.2.2 5)), some (.int (nI i))] [] σ) (σ : gm_S) (n : Nat) (ps : Nat → Bool) (U V : Nat → Nat) (hI : kInv σ n ps U V) (hM : mG σ n ps U V) : gm_G X E 4 404 [some (.ref b), some (.ref (E.2.2 0)), some (.ref (E.2.2 5)), some (.int (nI i))] [] σ := by
  have hg := gOK_k hI
  refine gi_aldn hC dL_law_404 rfl ?_
  refine gk_VI (n := 0) hC (fun l => c_X3_arboricity l E σ n ps U V hI) (gm_o3 E) rfl (gw_V gw_284 gw_285 gw_286 gw_23 gw_287) rfl ⟨rfl, rfl⟩ rfl (by decide +kernel) ⟨by decide, by decide⟩ (Nat.le_of_ble_eq_true rfl) dL_law_405 (fun r1 σ1 h1 => ?_)
  obtain ⟨f1, k1, -, h1⟩ := h1
  have hM1 := mG_k f1 hM
  refine gi_aldn hC dL_law_408 rfl ?_
  refine gk_VI (n := 0) hC (fun l => c_X4_arboricity l E σ1 n ps U V hM1) (gm_o4 E) rfl (gw_V gw_456 gw_457 gw_458 gw_28 gw_459) rfl ⟨rfl, rfl⟩ rfl (by decide +kernel) ⟨by decide, by decide⟩ (Nat.le_of_ble_eq_true rfl) dL_law_409 (fun r2 σ2 h2 => ?_)
  obtain ⟨f2, h2⟩ := h2
  have hI2 := hFR_k f2 k1
  have hM2 := mG_h f2 hM1
  have hr : r1 = r2 := marb_u (arb_marb hg.1 hg.2 h1) h2
  refine gi_icmp_eq hC 476 dL_law_412 (by decide) (fun h3 => ?_) (fun h3 => ?_)
  · exact NX σ2 n ps U V hI2 hM2
  · exact absurd hr h3
set_option maxHeartbeats 4000000 in
set_option maxRecDepth 100000 in
theorem lw_dense (E : gm_E) {X : gm_X} {c0 : Cond} {b L i : Nat} {xs : Nat → Int32} (hL : L ≤ 2048) (hC : gm_ok X E code 4 RL (c0 :: gw_T) room_1) (hB : gm_scr X b L xs) (hi : i + 4 ≤ L) (NX : ∀ (σ : gm_S) n ps U V, kInv σ n ps U V → mG σ n ps U V → gm_G X E 4 476 [some (.ref b), some (.ref (E.2.2 0)), some (.ref (E.2.2 5)), some (.int (nI i))] [] σ) (σ : gm_S) (n : Nat) (ps : Nat → Bool) (U V : Nat → Nat) (hI : kInv σ n ps U V) (hM : mG σ n ps U V) : gm_G X E 4 417 [some (.ref b), some (.ref (E.2.2 0)), some (.ref (E.2.2 5)), some (.int (nI i))] [] σ := by
  have hg := gOK_k hI
  refine gi_aldn hC dL_law_417 rfl ?_
  refine gk_VI (n := 0) hC (fun l => c_X3_dense l E σ n ps U V hI) (gm_o3 E) rfl (gw_V gw_288 gw_289 gw_290 gw_23 gw_291) rfl ⟨rfl, rfl⟩ rfl (by decide +kernel) ⟨by decide, by decide⟩ (Nat.le_of_ble_eq_true rfl) dL_law_418 (fun r1 σ1 h1 => ?_)
  obtain ⟨f1, k1, h1⟩ := h1
  have hM1 := mG_k f1 hM
  refine gi_aldn hC dL_law_421 rfl ?_
  refine gk_VI (n := 0) hC (fun l => c_X4_dense l E σ1 n ps U V hM1) (gm_o4 E) rfl (gw_V gw_461 gw_462 gw_463 gw_28 gw_464) rfl ⟨rfl, rfl⟩ rfl (by decide +kernel) ⟨by decide, by decide⟩ (Nat.le_of_ble_eq_true rfl) dL_law_422 (fun r2 σ2 h2 => ?_)
  obtain ⟨f2, h2⟩ := h2
  have hI2 := hFR_k f2 k1
  have hM2 := mG_h f2 hM1
  have hr : r1 = r2 := a_dense hg.1 hg.2 h1 h2
  refine gi_icmp_eq hC 476 dL_law_425 (by decide) (fun h3 => ?_) (fun h3 => ?_)
  · exact NX σ2 n ps U V hI2 hM2
  · exact absurd hr h3
set_option maxHeartbeats 4000000 in
set_option maxRecDepth 100000 in
theorem lw_spanning (E : gm_E) {X : gm_X} {c0 : Cond} {b L i : Nat} {xs : Nat → Int32} (hL : L ≤ 2048) (hC : gm_ok X E code 4 RL (c0 :: gw_T) room_1) (hB : gm_scr X b L xs) (hi : i + 4 ≤ L) (NX : ∀ (σ : gm_S) n ps U V, kInv σ n ps U V → mG σ n ps U V → gm_G X E 4 476 [some (.ref b), some (.ref (E.2.2 0)), some (.ref (E.2.2 5)), some (.int (nI i))] [] σ) (σ : gm_S) (n : Nat) (ps : Nat → Bool) (U V : Nat → Nat) (hI : kInv σ n ps U V) (hM : mG σ n ps U V) : gm_G X E 4 430 [some (.ref b), some (.ref (E.2.2 0)), some (.ref (E.2.2 5)), some (.int (nI i))] [] σ := by
  have hg := gOK_k hI
  refine gi_aldn hC dL_law_430 rfl ?_
  refine gk_VI (n := 0) hC (fun l => c_X3_spanning l E σ n ps U V hI) (gm_o3 E) rfl (gw_V gw_297 gw_298 gw_299 gw_23 gw_300) rfl ⟨rfl, rfl⟩ rfl (by decide +kernel) ⟨by decide, by decide⟩ (Nat.le_of_ble_eq_true rfl) dL_law_431 (fun r1 σ1 h1 => ?_)
  obtain ⟨f1, k1, h1⟩ := h1
  have hM1 := mG_k f1 hM
  refine gi_aldn hC dL_law_434 rfl ?_
  refine gk_VI (n := 0) hC (fun l => c_X4_spanning l E σ1 n ps U V hM1) (gm_o4 E) rfl (gw_V gw_466 gw_467 gw_468 gw_28 gw_469) rfl ⟨rfl, rfl⟩ rfl (by decide +kernel) ⟨by decide, by decide⟩ (Nat.le_of_ble_eq_true rfl) dL_law_435 (fun r2 σ2 h2 => ?_)
  obtain ⟨f2, h2⟩ := h2
  have hI2 := hFR_k f2 k1
  have hM2 := mG_h f2 hM1
  have hr : r1 = r2 := a_spanning hg.1 h1 h2
  refine gi_icmp_eq hC 476 dL_law_438 (by decide) (fun h3 => ?_) (fun h3 => ?_)
  · exact NX σ2 n ps U V hI2 hM2
  · exact absurd hr h3
set_option maxHeartbeats 4000000 in
set_option maxRecDepth 100000 in
theorem lw_told (E : gm_E) {X : gm_X} {c0 : Cond} {b L i : Nat} {xs : Nat → Int32} (hL : L ≤ 2048) (hC : gm_ok X E code 4 RL (c0 :: gw_T) room_1) (hB : gm_scr X b L xs) (hi : i + 4 ≤ L) (NX : ∀ (σ : gm_S) n ps U V, kInv σ n ps U V → mG σ n ps U V → gm_G X E 4 476 [some (.ref b), some (.ref (E.2.2 0)), some (.ref (E.2.2 5)), some (.int (nI i))] [] σ) (σ : gm_S) (n : Nat) (ps : Nat → Bool) (U V : Nat → Nat) (hI : kInv σ n ps U V) (hM : mG σ n ps U V) : gm_G X E 4 443 [some (.ref b), some (.ref (E.2.2 0)), some (.ref (E.2.2 5)), some (.int (nI i))] [] σ := by
  have hg := gOK_k hI
  refine gi_aldn hC dL_law_443 rfl ?_
  refine gi_aldn hC dL_law_444 rfl ?_
  refine gi_ildn hC dL_law_445 rfl ?_
  refine gi_const hC (v := 1) dL_law_446 (by decide) ?_
  refine gi_iadd hC dL_law_447 ?_
  refine gi_sld hC hB (j := i + 1) (nI_add i 1) (by omega) (by omega) dL_law_448 ?_
  refine gi_aldn hC dL_law_449 rfl ?_
  refine gi_ildn hC dL_law_450 rfl ?_
  refine gi_const hC (v := 2) dL_law_451 (by decide) ?_
  refine gi_iadd hC dL_law_452 ?_
  refine gi_sld hC hB (j := i + 2) (nI_add i 2) (by omega) (by omega) dL_law_453 ?_
  refine gk_VI (n := 2) hC (fun l => c_X3_told l E σ n ps U V hI (xs (i + 1)) (xs (i + 2))) (gm_o3 E) rfl (gw_V gw_301 gw_302 gw_303 gw_23 gw_304) rfl ⟨rfl, rfl⟩ rfl (by decide +kernel) ⟨by decide, by decide⟩ (Nat.le_of_ble_eq_true rfl) dL_law_454 (fun r1 σ1 h1 => ?_)
  obtain ⟨f1, k1, h1⟩ := h1
  have hM1 := mG_k f1 hM
  refine gi_aldn hC dL_law_457 rfl ?_
  refine gi_aldn hC dL_law_458 rfl ?_
  refine gi_ildn hC dL_law_459 rfl ?_
  refine gi_const hC (v := 1) dL_law_460 (by decide) ?_
  refine gi_iadd hC dL_law_461 ?_
  refine gi_sld hC hB (j := i + 1) (nI_add i 1) (by omega) (by omega) dL_law_462 ?_
  refine gi_aldn hC dL_law_463 rfl ?_
  refine gi_ildn hC dL_law_464 rfl ?_
  refine gi_const hC (v := 2) dL_law_465 (by decide) ?_
  refine gi_iadd hC dL_law_466 ?_
  refine gi_sld hC hB (j := i + 2) (nI_add i 2) (by omega) (by omega) dL_law_467 ?_
  refine gk_VI (n := 2) hC (fun l => c_X4_told l E σ1 n ps U V hM1 (xs (i + 1)) (xs (i + 2))) (gm_o4 E) rfl (gw_V gw_470 gw_471 gw_472 gw_28 gw_473) rfl ⟨rfl, rfl⟩ rfl (by decide +kernel) ⟨by decide, by decide⟩ (Nat.le_of_ble_eq_true rfl) dL_law_468 (fun r2 σ2 h2 => ?_)
  obtain ⟨rfl, h2⟩ := h2
  have hI2 := k1
  have hM2 := hM1
  have hr : r1 = r2 := a_told hg.2 h1 h2
  refine gi_icmp_eq hC 476 dL_law_471 (by decide) (fun h3 => ?_) (fun h3 => ?_)
  · exact NX σ2 n ps U V hI2 hM2
  · exact absurd hr h3
set_option maxHeartbeats 4000000 in
set_option maxRecDepth 100000 in
theorem law_loop (E : gm_E) {X : gm_X} {c0 : Cond} {b L : Nat} {xs : Nat → Int32} (hL : L ≤ 2048) (hC : gm_ok X E code 4 RL (c0 :: gw_T) room_1) (hB : gm_scr X b L xs) (hR : ∀ (σ : gm_S) (pc : Nat) (lo : List (Option Value)), decode code pc = .ok (.ireturn, 1) → gm_G X E 4 pc lo [.int 1] σ) : ∀ (f i : Nat) (σ : gm_S) (n : Nat) (ps : Nat → Bool) (U V : Nat → Nat), i ≤ L → L < i + 4 * f → kInv σ n ps U V → mG σ n ps U V → gm_G X E 4 18 [some (.ref b), some (.ref (E.2.2 0)), some (.ref (E.2.2 5)), some (.int (nI i))] [] σ := by
  intro f
  induction f with
  | zero => intro i σ n ps U V h1 h2; omega
  | succ f ih =>
    intro i σ n ps U V hiL hf hI hM
    refine gi_ildn hC dL_law_18 rfl ?_
    refine gi_aldn hC dL_law_19 rfl ?_
    refine gi_slen hC hB dL_law_20 ?_
    refine gi_const hC (v := 4) dL_law_21 (by decide) ?_
    refine gi_isub hC dL_law_22 ?_
    refine gi_icmp_gt hC 482 dL_law_23 (by decide) (fun h1 => ?_) (fun h1 => ?_)
    ·
      refine gi_const hC (v := 1) dL_law_482 (by decide) ?_
      exact hR _ _ _ dL_law_483
    ·
      have hi4 : i + 4 ≤ L := by
        have e1 := law_sub L (by omega)
        have e2 := nI_toInt (n := i) (by omega)
        rcases Nat.lt_or_ge L (i + 4) with c | c
        · refine absurd (Int32.lt_iff_toInt_lt.mpr ?_) h1
          rw [e1, e2]
          omega
        · exact c
      have NX : ∀ (σ : gm_S) n ps U V, kInv σ n ps U V → mG σ n ps U V → gm_G X E 4 476 [some (.ref b), some (.ref (E.2.2 0)), some (.ref (E.2.2 5)), some (.int (nI i))] [] σ := by
        intro σ n ps U V hI hM
        refine gi_iinc_3 hC dL_law_476 (v := nI (i + 4)) (nI_add i 4) (by decide) ?_
        refine gi_goto hC 18 dL_law_479 (by decide) ?_
        exact ih (i + 4) σ n ps U V (by omega) (by omega) hI hM
      refine gi_aldn hC dL_law_26 rfl ?_
      refine gi_ildn hC dL_law_27 rfl ?_
      refine gi_sld hC hB (j := i) rfl (by omega) (by omega) dL_law_28 ?_
      refine gi_bipush hC (v := 15) dL_law_29 (by decide) ?_
      refine gi_iand hC dL_law_31 ?_
      obtain ⟨j, hj, ej⟩ := law_15 (xs i)
      rw [ej]
      by_cases c0 : j = 0
      · subst c0
        refine gi_tsIn (off := 72) hC 104 dL_law_32 (by decide) (by decide) (by decide +kernel) (by decide) ?_
        exact lw_begin E hL hC hB hi4 NX σ n ps U V hI hM
      by_cases c1 : j = 1
      · subst c1
        refine gi_tsIn (off := 95) hC 127 dL_law_32 (by decide) (by decide) (by decide +kernel) (by decide) ?_
        exact lw_join E hL hC hB hi4 NX σ n ps U V hI hM
      by_cases c2 : j = 2
      · subst c2
        refine gi_tsIn (off := 128) hC 160 dL_law_32 (by decide) (by decide) (by decide +kernel) (by decide) ?_
        exact lw_cut E hL hC hB hi4 NX σ n ps U V hI hM
      by_cases c3 : j = 3
      · subst c3
        refine gi_tsIn (off := 151) hC 183 dL_law_32 (by decide) (by decide) (by decide +kernel) (by decide) ?_
        exact lw_most E hL hC hB hi4 NX σ n ps U V hI hM
      by_cases c4 : j = 4
      · subst c4
        refine gi_tsIn (off := 174) hC 206 dL_law_32 (by decide) (by decide) (by decide +kernel) (by decide) ?_
        exact lw_held E hL hC hB hi4 NX σ n ps U V hI hM
      by_cases c5 : j = 5
      · subst c5
        refine gi_tsIn (off := 207) hC 239 dL_law_32 (by decide) (by decide) (by decide +kernel) (by decide) ?_
        exact lw_forest E hL hC hB hi4 NX σ n ps U V hI hM
      by_cases c6 : j = 6
      · subst c6
        refine gi_tsIn (off := 240) hC 272 dL_law_32 (by decide) (by decide) (by decide +kernel) (by decide) ?_
        exact lw_why E hL hC hB hi4 NX σ n ps U V hI hM
      by_cases c7 : j = 7
      · subst c7
        refine gi_tsIn (off := 283) hC 315 dL_law_32 (by decide) (by decide) (by decide +kernel) (by decide) ?_
        exact lw_tight E hL hC hB hi4 NX σ n ps U V hI hM
      by_cases c8 : j = 8
      · subst c8
        refine gi_tsIn (off := 326) hC 358 dL_law_32 (by decide) (by decide) (by decide +kernel) (by decide) ?_
        exact lw_classes E hL hC hB hi4 NX σ n ps U V hI hM
      by_cases c9 : j = 9
      · subst c9
        refine gi_tsIn (off := 349) hC 381 dL_law_32 (by decide) (by decide) (by decide +kernel) (by decide) ?_
        exact lw_crossing E hL hC hB hi4 NX σ n ps U V hI hM
      by_cases c10 : j = 10
      · subst c10
        refine gi_tsIn (off := 372) hC 404 dL_law_32 (by decide) (by decide) (by decide +kernel) (by decide) ?_
        exact lw_arboricity E hL hC hB hi4 NX σ n ps U V hI hM
      by_cases c11 : j = 11
      · subst c11
        refine gi_tsIn (off := 385) hC 417 dL_law_32 (by decide) (by decide) (by decide +kernel) (by decide) ?_
        exact lw_dense E hL hC hB hi4 NX σ n ps U V hI hM
      by_cases c12 : j = 12
      · subst c12
        refine gi_tsIn (off := 398) hC 430 dL_law_32 (by decide) (by decide) (by decide +kernel) (by decide) ?_
        exact lw_spanning E hL hC hB hi4 NX σ n ps U V hI hM
      by_cases c13 : j = 13
      · subst c13
        refine gi_tsIn (off := 411) hC 443 dL_law_32 (by decide) (by decide) (by decide +kernel) (by decide) ?_
        exact lw_told E hL hC hB hi4 NX σ n ps U V hI hM
      refine gi_tsOut hC 476 dL_law_32 (Or.inr (by rw [nI_toInt (by omega)]; omega)) (by decide) ?_
      exact NX σ n ps U V hI hM
