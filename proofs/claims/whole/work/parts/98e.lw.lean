/-! ===== the law: one call after the other ===== -/
theorem scr_of {Ls : Nat} {xs : Nat → Int32} {τ : pm_S} (hf : fr5 (pm_s0 Ls xs) τ) : pm_is τ 1 20 ∧ qL τ 1 = Ls ∧ ∀ j, qI τ 1 j = xs j := ⟨⟨by decide, Nat.lt_of_lt_of_le (show 1 < 6 by decide) hf.1.1, hf.1.2 1 (show 1 < 6 by decide)⟩, (hf.2 1 (by decide)).1, fun j => ((hf.2 1 (by decide)).2 j).1⟩
theorem lw_0 {d al i Ls : Nat} {xs : Nat → Int32} {σ : pm_S} {Q : Option Value → pm_S → Prop} (hd : 101 ≤ d) (hi : i + 6 ≤ Ls) (hL : Ls ≤ 3072) (hJ : JJ Ls xs σ) (kk : ∀ τ, JJ Ls xs τ → PW d al pm_ML 895 [.ref 1, .ref 6, .ref 43, .int (nI i)] [] τ Q) : PW d (al + 2) pm_ML 132 [.ref 1, .ref 6, .ref 43, .int (nI i)] [] σ Q := by
  obtain ⟨hS, hf, -⟩ := id hJ
  have h68 := hS.1
  obtain ⟨i1, l1, v1⟩ := scr_of hf
  refine pw_aload_n dL_law_132 rfl ?_
  refine pw_aload_n dL_law_133 rfl ?_
  refine pw_iload_n dL_law_134 rfl ?_
  refine pw_iconst (v := 1) dL_law_135 (by decide) ?_
  refine pw_iadd dL_law_136 ?_
  refine pw_iald dL_law_137 i1 (nI_add i 1) (by rw [l1]; omega) (by omega) ?_
  rw [v1]
  refine pw_aload_n dL_law_138 rfl ?_
  refine pw_iload_n dL_law_139 rfl ?_
  refine pw_iconst (v := 2) dL_law_140 (by decide) ?_
  refine pw_iadd dL_law_141 ?_
  refine pw_iald dL_law_142 i1 (nI_add i 2) (by rw [l1]; omega) (by omega) ?_
  rw [v1]
  refine pw_aload_n dL_law_143 rfl ?_
  refine pw_iload_n dL_law_144 rfl ?_
  refine pw_iconst (v := 3) dL_law_145 (by decide) ?_
  refine pw_iadd dL_law_146 ?_
  refine pw_iald dL_law_147 i1 (nI_add i 3) (by rw [l1]; omega) (by omega) ?_
  rw [v1]
  refine pw_aload_n dL_law_148 rfl ?_
  refine pw_iload_n dL_law_149 rfl ?_
  refine pw_iconst (v := 4) dL_law_150 (by decide) ?_
  refine pw_iadd dL_law_151 ?_
  refine pw_iald dL_law_152 i1 (nI_add i 4) (by rw [l1]; omega) (by omega) ?_
  rw [v1]
  refine pw_aload_n dL_law_153 rfl ?_
  refine pw_iload_n dL_law_154 rfl ?_
  refine pw_iconst (v := 5) dL_law_155 (by decide) ?_
  refine pw_iadd dL_law_156 ?_
  refine pw_iald dL_law_157 i1 (nI_add i 5) (by rw [l1]; omega) (by omega) ?_
  rw [v1]
  refine pw_cV5 (d1 := d - 1) (a1 := 2) (a2 := al) dL_law_158 mtX11_thing ivX11_thing mlL_13 (Nat.le_of_ble_eq_true rfl) (Nat.le_of_ble_eq_true rfl) (by omega) (by omega) (hS.at rfl rfl rfl) rfl rfl (PW.fr (d := 100) (by omega) (q_thing hJ (xs (i + 1)) (xs (i + 2)) (xs (i + 3)) (xs (i + 4)) (xs (i + 5)))) ?_
  rintro r_ τ1 ⟨x, hr_, hf1, hm⟩; subst r_
  obtain ⟨i2, l2, v2⟩ := scr_of (hf.tr hf1)
  have i43 : pm_is τ1 43 12 := ⟨by decide, Nat.lt_of_lt_of_le (show 43 < qN σ by omega) hf1.1.1, (hf1.1.2 43 (by omega)).trans (hS.at (a := 43) rfl rfl rfl).2.2⟩
  refine pw_aload_n dL_law_161 rfl ?_
  refine pw_aload_n dL_law_162 rfl ?_
  refine pw_iload_n dL_law_163 rfl ?_
  refine pw_iconst (v := 1) dL_law_164 (by decide) ?_
  refine pw_iadd dL_law_165 ?_
  refine pw_iald dL_law_166 i2 (nI_add i 1) (by rw [l2]; omega) (by omega) ?_
  rw [v2]
  refine pw_aload_n dL_law_167 rfl ?_
  refine pw_iload_n dL_law_168 rfl ?_
  refine pw_iconst (v := 2) dL_law_169 (by decide) ?_
  refine pw_iadd dL_law_170 ?_
  refine pw_iald dL_law_171 i2 (nI_add i 2) (by rw [l2]; omega) (by omega) ?_
  rw [v2]
  refine pw_aload_n dL_law_172 rfl ?_
  refine pw_iload_n dL_law_173 rfl ?_
  refine pw_iconst (v := 3) dL_law_174 (by decide) ?_
  refine pw_iadd dL_law_175 ?_
  refine pw_iald dL_law_176 i2 (nI_add i 3) (by rw [l2]; omega) (by omega) ?_
  rw [v2]
  refine pw_aload_n dL_law_177 rfl ?_
  refine pw_iload_n dL_law_178 rfl ?_
  refine pw_iconst (v := 4) dL_law_179 (by decide) ?_
  refine pw_iadd dL_law_180 ?_
  refine pw_iald dL_law_181 i2 (nI_add i 4) (by rw [l2]; omega) (by omega) ?_
  rw [v2]
  refine pw_aload_n dL_law_182 rfl ?_
  refine pw_iload_n dL_law_183 rfl ?_
  refine pw_iconst (v := 5) dL_law_184 (by decide) ?_
  refine pw_iadd dL_law_185 ?_
  refine pw_iald dL_law_186 i2 (nI_add i 5) (by rw [l2]; omega) (by omega) ?_
  rw [v2]
  refine pw_cV5 (d1 := d - 1) (a1 := 0) (a2 := al) dL_law_187 mtX12_thing ivX12_thing mlL_17 (Nat.le_of_ble_eq_true rfl) (Nat.le_of_ble_eq_true rfl) (by omega) (by omega) i43 rfl rfl (PW.fr (d := 100) (by omega) hm) ?_
  rintro r_ τ2 ⟨hr_, hJ2⟩; subst r_
  refine pw_icmp_eq (tgt := 895) dL_law_190 (by decide) (fun h190 => ?_) (fun h190 => ?_)
  · exact kk τ2 hJ2
  · exact absurd rfl h190
theorem lw_1 {d al i Ls : Nat} {xs : Nat → Int32} {σ : pm_S} {Q : Option Value → pm_S → Prop} (hd : 101 ≤ d) (hi : i + 6 ≤ Ls) (hL : Ls ≤ 3072) (hJ : JJ Ls xs σ) (kk : ∀ τ, JJ Ls xs τ → PW d al pm_ML 895 [.ref 1, .ref 6, .ref 43, .int (nI i)] [] τ Q) : PW d (al + 2) pm_ML 195 [.ref 1, .ref 6, .ref 43, .int (nI i)] [] σ Q := by
  obtain ⟨hS, hf, -⟩ := id hJ
  have h68 := hS.1
  obtain ⟨i1, l1, v1⟩ := scr_of hf
  refine pw_aload_n dL_law_195 rfl ?_
  refine pw_aload_n dL_law_196 rfl ?_
  refine pw_iload_n dL_law_197 rfl ?_
  refine pw_iconst (v := 1) dL_law_198 (by decide) ?_
  refine pw_iadd dL_law_199 ?_
  refine pw_iald dL_law_200 i1 (nI_add i 1) (by rw [l1]; omega) (by omega) ?_
  rw [v1]
  refine pw_aload_n dL_law_201 rfl ?_
  refine pw_iload_n dL_law_202 rfl ?_
  refine pw_iconst (v := 2) dL_law_203 (by decide) ?_
  refine pw_iadd dL_law_204 ?_
  refine pw_iald dL_law_205 i1 (nI_add i 2) (by rw [l1]; omega) (by omega) ?_
  rw [v1]
  refine pw_aload_n dL_law_206 rfl ?_
  refine pw_iload_n dL_law_207 rfl ?_
  refine pw_iconst (v := 3) dL_law_208 (by decide) ?_
  refine pw_iadd dL_law_209 ?_
  refine pw_iald dL_law_210 i1 (nI_add i 3) (by rw [l1]; omega) (by omega) ?_
  rw [v1]
  refine pw_cV3 (d1 := d - 1) (a1 := 2) (a2 := al) dL_law_211 mtX11_copy ivX11_copy mlL_18 (Nat.le_of_ble_eq_true rfl) (Nat.le_of_ble_eq_true rfl) (by omega) (by omega) (hS.at rfl rfl rfl) rfl rfl (PW.fr (d := 100) (by omega) (q_copy hJ (xs (i + 1)) (xs (i + 2)) (xs (i + 3)))) ?_
  rintro r_ τ1 ⟨x, hr_, hf1, hm⟩; subst r_
  obtain ⟨i2, l2, v2⟩ := scr_of (hf.tr hf1)
  have i43 : pm_is τ1 43 12 := ⟨by decide, Nat.lt_of_lt_of_le (show 43 < qN σ by omega) hf1.1.1, (hf1.1.2 43 (by omega)).trans (hS.at (a := 43) rfl rfl rfl).2.2⟩
  refine pw_aload_n dL_law_214 rfl ?_
  refine pw_aload_n dL_law_215 rfl ?_
  refine pw_iload_n dL_law_216 rfl ?_
  refine pw_iconst (v := 1) dL_law_217 (by decide) ?_
  refine pw_iadd dL_law_218 ?_
  refine pw_iald dL_law_219 i2 (nI_add i 1) (by rw [l2]; omega) (by omega) ?_
  rw [v2]
  refine pw_aload_n dL_law_220 rfl ?_
  refine pw_iload_n dL_law_221 rfl ?_
  refine pw_iconst (v := 2) dL_law_222 (by decide) ?_
  refine pw_iadd dL_law_223 ?_
  refine pw_iald dL_law_224 i2 (nI_add i 2) (by rw [l2]; omega) (by omega) ?_
  rw [v2]
  refine pw_aload_n dL_law_225 rfl ?_
  refine pw_iload_n dL_law_226 rfl ?_
  refine pw_iconst (v := 3) dL_law_227 (by decide) ?_
  refine pw_iadd dL_law_228 ?_
  refine pw_iald dL_law_229 i2 (nI_add i 3) (by rw [l2]; omega) (by omega) ?_
  rw [v2]
  refine pw_cV3 (d1 := d - 1) (a1 := 0) (a2 := al) dL_law_230 mtX12_copy ivX12_copy mlL_22 (Nat.le_of_ble_eq_true rfl) (Nat.le_of_ble_eq_true rfl) (by omega) (by omega) i43 rfl rfl (PW.fr (d := 100) (by omega) hm) ?_
  rintro r_ τ2 ⟨hr_, hJ2⟩; subst r_
  refine pw_icmp_eq (tgt := 895) dL_law_233 (by decide) (fun h233 => ?_) (fun h233 => ?_)
  · exact kk τ2 hJ2
  · exact absurd rfl h233
theorem lw_2 {d al i Ls : Nat} {xs : Nat → Int32} {σ : pm_S} {Q : Option Value → pm_S → Prop} (hd : 101 ≤ d) (hi : i + 6 ≤ Ls) (hL : Ls ≤ 3072) (hJ : JJ Ls xs σ) (kk : ∀ τ, JJ Ls xs τ → PW d al pm_ML 895 [.ref 1, .ref 6, .ref 43, .int (nI i)] [] τ Q) : PW d (al + 2) pm_ML 238 [.ref 1, .ref 6, .ref 43, .int (nI i)] [] σ Q := by
  obtain ⟨hS, hf, -⟩ := id hJ
  have h68 := hS.1
  obtain ⟨i1, l1, v1⟩ := scr_of hf
  refine pw_aload_n dL_law_238 rfl ?_
  refine pw_aload_n dL_law_239 rfl ?_
  refine pw_iload_n dL_law_240 rfl ?_
  refine pw_iconst (v := 1) dL_law_241 (by decide) ?_
  refine pw_iadd dL_law_242 ?_
  refine pw_iald dL_law_243 i1 (nI_add i 1) (by rw [l1]; omega) (by omega) ?_
  rw [v1]
  refine pw_aload_n dL_law_244 rfl ?_
  refine pw_iload_n dL_law_245 rfl ?_
  refine pw_iconst (v := 2) dL_law_246 (by decide) ?_
  refine pw_iadd dL_law_247 ?_
  refine pw_iald dL_law_248 i1 (nI_add i 2) (by rw [l1]; omega) (by omega) ?_
  rw [v1]
  refine pw_cV2 (d1 := d - 1) (a1 := 2) (a2 := al) dL_law_249 mtX11_pass ivX11_pass mlL_23 (Nat.le_of_ble_eq_true rfl) (Nat.le_of_ble_eq_true rfl) (by omega) (by omega) (hS.at rfl rfl rfl) rfl rfl (PW.fr (d := 100) (by omega) (q_pass hJ (xs (i + 1)) (xs (i + 2)))) ?_
  rintro r_ τ1 ⟨x, hr_, hf1, hm⟩; subst r_
  obtain ⟨i2, l2, v2⟩ := scr_of (hf.tr hf1)
  have i43 : pm_is τ1 43 12 := ⟨by decide, Nat.lt_of_lt_of_le (show 43 < qN σ by omega) hf1.1.1, (hf1.1.2 43 (by omega)).trans (hS.at (a := 43) rfl rfl rfl).2.2⟩
  refine pw_aload_n dL_law_252 rfl ?_
  refine pw_aload_n dL_law_253 rfl ?_
  refine pw_iload_n dL_law_254 rfl ?_
  refine pw_iconst (v := 1) dL_law_255 (by decide) ?_
  refine pw_iadd dL_law_256 ?_
  refine pw_iald dL_law_257 i2 (nI_add i 1) (by rw [l2]; omega) (by omega) ?_
  rw [v2]
  refine pw_aload_n dL_law_258 rfl ?_
  refine pw_iload_n dL_law_259 rfl ?_
  refine pw_iconst (v := 2) dL_law_260 (by decide) ?_
  refine pw_iadd dL_law_261 ?_
  refine pw_iald dL_law_262 i2 (nI_add i 2) (by rw [l2]; omega) (by omega) ?_
  rw [v2]
  refine pw_cV2 (d1 := d - 1) (a1 := 0) (a2 := al) dL_law_263 mtX12_pass ivX12_pass mlL_27 (Nat.le_of_ble_eq_true rfl) (Nat.le_of_ble_eq_true rfl) (by omega) (by omega) i43 rfl rfl (PW.fr (d := 100) (by omega) hm) ?_
  rintro r_ τ2 ⟨hr_, hJ2⟩; subst r_
  refine pw_icmp_eq (tgt := 895) dL_law_266 (by decide) (fun h266 => ?_) (fun h266 => ?_)
  · exact kk τ2 hJ2
  · exact absurd rfl h266
theorem lw_3 {d al i Ls : Nat} {xs : Nat → Int32} {σ : pm_S} {Q : Option Value → pm_S → Prop} (hd : 101 ≤ d) (hi : i + 6 ≤ Ls) (hL : Ls ≤ 3072) (hJ : JJ Ls xs σ) (kk : ∀ τ, JJ Ls xs τ → PW d al pm_ML 895 [.ref 1, .ref 6, .ref 43, .int (nI i)] [] τ Q) : PW d (al + 2) pm_ML 271 [.ref 1, .ref 6, .ref 43, .int (nI i)] [] σ Q := by
  obtain ⟨hS, hf, -⟩ := id hJ
  have h68 := hS.1
  obtain ⟨i1, l1, v1⟩ := scr_of hf
  refine pw_aload_n dL_law_271 rfl ?_
  refine pw_aload_n dL_law_272 rfl ?_
  refine pw_iload_n dL_law_273 rfl ?_
  refine pw_iconst (v := 1) dL_law_274 (by decide) ?_
  refine pw_iadd dL_law_275 ?_
  refine pw_iald dL_law_276 i1 (nI_add i 1) (by rw [l1]; omega) (by omega) ?_
  rw [v1]
  refine pw_aload_n dL_law_277 rfl ?_
  refine pw_iload_n dL_law_278 rfl ?_
  refine pw_iconst (v := 2) dL_law_279 (by decide) ?_
  refine pw_iadd dL_law_280 ?_
  refine pw_iald dL_law_281 i1 (nI_add i 2) (by rw [l1]; omega) (by omega) ?_
  rw [v1]
  refine pw_cV2 (d1 := d - 1) (a1 := 2) (a2 := al) dL_law_282 mtX11_lend ivX11_lend mlL_28 (Nat.le_of_ble_eq_true rfl) (Nat.le_of_ble_eq_true rfl) (by omega) (by omega) (hS.at rfl rfl rfl) rfl rfl (PW.fr (d := 100) (by omega) (q_lend hJ (xs (i + 1)) (xs (i + 2)))) ?_
  rintro r_ τ1 ⟨x, hr_, hf1, hm⟩; subst r_
  obtain ⟨i2, l2, v2⟩ := scr_of (hf.tr hf1)
  have i43 : pm_is τ1 43 12 := ⟨by decide, Nat.lt_of_lt_of_le (show 43 < qN σ by omega) hf1.1.1, (hf1.1.2 43 (by omega)).trans (hS.at (a := 43) rfl rfl rfl).2.2⟩
  refine pw_aload_n dL_law_285 rfl ?_
  refine pw_aload_n dL_law_286 rfl ?_
  refine pw_iload_n dL_law_287 rfl ?_
  refine pw_iconst (v := 1) dL_law_288 (by decide) ?_
  refine pw_iadd dL_law_289 ?_
  refine pw_iald dL_law_290 i2 (nI_add i 1) (by rw [l2]; omega) (by omega) ?_
  rw [v2]
  refine pw_aload_n dL_law_291 rfl ?_
  refine pw_iload_n dL_law_292 rfl ?_
  refine pw_iconst (v := 2) dL_law_293 (by decide) ?_
  refine pw_iadd dL_law_294 ?_
  refine pw_iald dL_law_295 i2 (nI_add i 2) (by rw [l2]; omega) (by omega) ?_
  rw [v2]
  refine pw_cV2 (d1 := d - 1) (a1 := 0) (a2 := al) dL_law_296 mtX12_lend ivX12_lend mlL_31 (Nat.le_of_ble_eq_true rfl) (Nat.le_of_ble_eq_true rfl) (by omega) (by omega) i43 rfl rfl (PW.fr (d := 100) (by omega) hm) ?_
  rintro r_ τ2 ⟨hr_, hJ2⟩; subst r_
  refine pw_icmp_eq (tgt := 895) dL_law_299 (by decide) (fun h299 => ?_) (fun h299 => ?_)
  · exact kk τ2 hJ2
  · exact absurd rfl h299
theorem lw_4 {d al i Ls : Nat} {xs : Nat → Int32} {σ : pm_S} {Q : Option Value → pm_S → Prop} (hd : 101 ≤ d) (hi : i + 6 ≤ Ls) (hL : Ls ≤ 3072) (hJ : JJ Ls xs σ) (kk : ∀ τ, JJ Ls xs τ → PW d al pm_ML 895 [.ref 1, .ref 6, .ref 43, .int (nI i)] [] τ Q) : PW d (al + 2) pm_ML 304 [.ref 1, .ref 6, .ref 43, .int (nI i)] [] σ Q := by
  obtain ⟨hS, hf, -⟩ := id hJ
  have h68 := hS.1
  obtain ⟨i1, l1, v1⟩ := scr_of hf
  refine pw_aload_n dL_law_304 rfl ?_
  refine pw_aload_n dL_law_305 rfl ?_
  refine pw_iload_n dL_law_306 rfl ?_
  refine pw_iconst (v := 1) dL_law_307 (by decide) ?_
  refine pw_iadd dL_law_308 ?_
  refine pw_iald dL_law_309 i1 (nI_add i 1) (by rw [l1]; omega) (by omega) ?_
  rw [v1]
  refine pw_cV1 (d1 := d - 1) (a1 := 2) (a2 := al) dL_law_310 mtX11_back ivX11_back mlL_32 (Nat.le_of_ble_eq_true rfl) (Nat.le_of_ble_eq_true rfl) (by omega) (by omega) (hS.at rfl rfl rfl) rfl rfl (PW.fr (d := 100) (by omega) (q_back hJ (xs (i + 1)))) ?_
  rintro r_ τ1 ⟨x, hr_, hf1, hm⟩; subst r_
  obtain ⟨i2, l2, v2⟩ := scr_of (hf.tr hf1)
  have i43 : pm_is τ1 43 12 := ⟨by decide, Nat.lt_of_lt_of_le (show 43 < qN σ by omega) hf1.1.1, (hf1.1.2 43 (by omega)).trans (hS.at (a := 43) rfl rfl rfl).2.2⟩
  refine pw_aload_n dL_law_313 rfl ?_
  refine pw_aload_n dL_law_314 rfl ?_
  refine pw_iload_n dL_law_315 rfl ?_
  refine pw_iconst (v := 1) dL_law_316 (by decide) ?_
  refine pw_iadd dL_law_317 ?_
  refine pw_iald dL_law_318 i2 (nI_add i 1) (by rw [l2]; omega) (by omega) ?_
  rw [v2]
  refine pw_cV1 (d1 := d - 1) (a1 := 0) (a2 := al) dL_law_319 mtX12_back ivX12_back mlL_36 (Nat.le_of_ble_eq_true rfl) (Nat.le_of_ble_eq_true rfl) (by omega) (by omega) i43 rfl rfl (PW.fr (d := 100) (by omega) hm) ?_
  rintro r_ τ2 ⟨hr_, hJ2⟩; subst r_
  refine pw_icmp_eq (tgt := 895) dL_law_322 (by decide) (fun h322 => ?_) (fun h322 => ?_)
  · exact kk τ2 hJ2
  · exact absurd rfl h322
theorem lw_5 {d al i Ls : Nat} {xs : Nat → Int32} {σ : pm_S} {Q : Option Value → pm_S → Prop} (hd : 101 ≤ d) (hi : i + 6 ≤ Ls) (hL : Ls ≤ 3072) (hJ : JJ Ls xs σ) (kk : ∀ τ, JJ Ls xs τ → PW d al pm_ML 895 [.ref 1, .ref 6, .ref 43, .int (nI i)] [] τ Q) : PW d (al + 2) pm_ML 327 [.ref 1, .ref 6, .ref 43, .int (nI i)] [] σ Q := by
  obtain ⟨hS, hf, -⟩ := id hJ
  have h68 := hS.1
  obtain ⟨i1, l1, v1⟩ := scr_of hf
  refine pw_aload_n dL_law_327 rfl ?_
  refine pw_aload_n dL_law_328 rfl ?_
  refine pw_iload_n dL_law_329 rfl ?_
  refine pw_iconst (v := 1) dL_law_330 (by decide) ?_
  refine pw_iadd dL_law_331 ?_
  refine pw_iald dL_law_332 i1 (nI_add i 1) (by rw [l1]; omega) (by omega) ?_
  rw [v1]
  refine pw_cV1 (d1 := d - 1) (a1 := 2) (a2 := al) dL_law_333 mtX11_burn ivX11_burn mlL_37 (Nat.le_of_ble_eq_true rfl) (Nat.le_of_ble_eq_true rfl) (by omega) (by omega) (hS.at rfl rfl rfl) rfl rfl (PW.fr (d := 100) (by omega) (q_burn hJ (xs (i + 1)))) ?_
  rintro r_ τ1 ⟨x, hr_, hf1, hm⟩; subst r_
  obtain ⟨i2, l2, v2⟩ := scr_of (hf.tr hf1)
  have i43 : pm_is τ1 43 12 := ⟨by decide, Nat.lt_of_lt_of_le (show 43 < qN σ by omega) hf1.1.1, (hf1.1.2 43 (by omega)).trans (hS.at (a := 43) rfl rfl rfl).2.2⟩
  refine pw_aload_n dL_law_336 rfl ?_
  refine pw_aload_n dL_law_337 rfl ?_
  refine pw_iload_n dL_law_338 rfl ?_
  refine pw_iconst (v := 1) dL_law_339 (by decide) ?_
  refine pw_iadd dL_law_340 ?_
  refine pw_iald dL_law_341 i2 (nI_add i 1) (by rw [l2]; omega) (by omega) ?_
  rw [v2]
  refine pw_cV1 (d1 := d - 1) (a1 := 0) (a2 := al) dL_law_342 mtX12_burn ivX12_burn mlL_40 (Nat.le_of_ble_eq_true rfl) (Nat.le_of_ble_eq_true rfl) (by omega) (by omega) i43 rfl rfl (PW.fr (d := 100) (by omega) hm) ?_
  rintro r_ τ2 ⟨hr_, hJ2⟩; subst r_
  refine pw_icmp_eq (tgt := 895) dL_law_345 (by decide) (fun h345 => ?_) (fun h345 => ?_)
  · exact kk τ2 hJ2
  · exact absurd rfl h345
theorem lw_6 {d al i Ls : Nat} {xs : Nat → Int32} {σ : pm_S} {Q : Option Value → pm_S → Prop} (hd : 101 ≤ d) (hi : i + 6 ≤ Ls) (hL : Ls ≤ 3072) (hJ : JJ Ls xs σ) (kk : ∀ τ, JJ Ls xs τ → PW d al pm_ML 895 [.ref 1, .ref 6, .ref 43, .int (nI i)] [] τ Q) : PW d (al + 2) pm_ML 350 [.ref 1, .ref 6, .ref 43, .int (nI i)] [] σ Q := by
  obtain ⟨hS, hf, -⟩ := id hJ
  have h68 := hS.1
  obtain ⟨i1, l1, v1⟩ := scr_of hf
  refine pw_aload_n dL_law_350 rfl ?_
  refine pw_aload_n dL_law_351 rfl ?_
  refine pw_iload_n dL_law_352 rfl ?_
  refine pw_iconst (v := 1) dL_law_353 (by decide) ?_
  refine pw_iadd dL_law_354 ?_
  refine pw_iald dL_law_355 i1 (nI_add i 1) (by rw [l1]; omega) (by omega) ?_
  rw [v1]
  refine pw_cV1 (d1 := d - 1) (a1 := 2) (a2 := al) dL_law_356 mtX11_days ivX11_days mlL_41 (Nat.le_of_ble_eq_true rfl) (Nat.le_of_ble_eq_true rfl) (by omega) (by omega) (hS.at rfl rfl rfl) rfl rfl (PW.fr (d := 100) (by omega) (q_days hJ (xs (i + 1)))) ?_
  rintro r_ τ1 ⟨x, hr_, hf1, hm⟩; subst r_
  obtain ⟨i2, l2, v2⟩ := scr_of (hf.tr hf1)
  have i43 : pm_is τ1 43 12 := ⟨by decide, Nat.lt_of_lt_of_le (show 43 < qN σ by omega) hf1.1.1, (hf1.1.2 43 (by omega)).trans (hS.at (a := 43) rfl rfl rfl).2.2⟩
  refine pw_aload_n dL_law_359 rfl ?_
  refine pw_aload_n dL_law_360 rfl ?_
  refine pw_iload_n dL_law_361 rfl ?_
  refine pw_iconst (v := 1) dL_law_362 (by decide) ?_
  refine pw_iadd dL_law_363 ?_
  refine pw_iald dL_law_364 i2 (nI_add i 1) (by rw [l2]; omega) (by omega) ?_
  rw [v2]
  refine pw_cV1 (d1 := d - 1) (a1 := 0) (a2 := al) dL_law_365 mtX12_days ivX12_days mlL_45 (Nat.le_of_ble_eq_true rfl) (Nat.le_of_ble_eq_true rfl) (by omega) (by omega) i43 rfl rfl (PW.fr (d := 100) (by omega) hm) ?_
  rintro r_ τ2 ⟨hr_, hJ2⟩; subst r_
  refine pw_icmp_eq (tgt := 895) dL_law_368 (by decide) (fun h368 => ?_) (fun h368 => ?_)
  · exact kk τ2 hJ2
  · exact absurd rfl h368
theorem lw_7 {d al i Ls : Nat} {xs : Nat → Int32} {σ : pm_S} {Q : Option Value → pm_S → Prop} (hd : 101 ≤ d) (hi : i + 6 ≤ Ls) (hL : Ls ≤ 3072) (hJ : JJ Ls xs σ) (kk : ∀ τ, JJ Ls xs τ → PW d al pm_ML 895 [.ref 1, .ref 6, .ref 43, .int (nI i)] [] τ Q) : PW d (al + 2) pm_ML 373 [.ref 1, .ref 6, .ref 43, .int (nI i)] [] σ Q := by
  obtain ⟨hS, hf, -⟩ := id hJ
  have h68 := hS.1
  obtain ⟨i1, l1, v1⟩ := scr_of hf
  refine pw_aload_n dL_law_373 rfl ?_
  refine pw_aload_n dL_law_374 rfl ?_
  refine pw_iload_n dL_law_375 rfl ?_
  refine pw_iconst (v := 1) dL_law_376 (by decide) ?_
  refine pw_iadd dL_law_377 ?_
  refine pw_iald dL_law_378 i1 (nI_add i 1) (by rw [l1]; omega) (by omega) ?_
  rw [v1]
  refine pw_cV1 (d1 := d - 1) (a1 := 2) (a2 := al) dL_law_379 mtX11_look ivX11_look mlL_46 (Nat.le_of_ble_eq_true rfl) (Nat.le_of_ble_eq_true rfl) (by omega) (by omega) (hS.at rfl rfl rfl) rfl rfl (PW.fr (d := 100) (by omega) (q_look hJ (xs (i + 1)))) ?_
  rintro r_ τ1 ⟨x, hr_, hf1, hm⟩; subst r_
  obtain ⟨i2, l2, v2⟩ := scr_of (hf.tr hf1)
  have i43 : pm_is τ1 43 12 := ⟨by decide, Nat.lt_of_lt_of_le (show 43 < qN σ by omega) hf1.1.1, (hf1.1.2 43 (by omega)).trans (hS.at (a := 43) rfl rfl rfl).2.2⟩
  refine pw_aload_n dL_law_382 rfl ?_
  refine pw_aload_n dL_law_383 rfl ?_
  refine pw_iload_n dL_law_384 rfl ?_
  refine pw_iconst (v := 1) dL_law_385 (by decide) ?_
  refine pw_iadd dL_law_386 ?_
  refine pw_iald dL_law_387 i2 (nI_add i 1) (by rw [l2]; omega) (by omega) ?_
  rw [v2]
  refine pw_cV1 (d1 := d - 1) (a1 := 0) (a2 := al) dL_law_388 mtX12_look ivX12_look mlL_49 (Nat.le_of_ble_eq_true rfl) (Nat.le_of_ble_eq_true rfl) (by omega) (by omega) i43 rfl rfl (PW.fr (d := 100) (by omega) hm) ?_
  rintro r_ τ2 ⟨hr_, hJ2⟩; subst r_
  refine pw_icmp_eq (tgt := 895) dL_law_391 (by decide) (fun h391 => ?_) (fun h391 => ?_)
  · exact kk τ2 hJ2
  · exact absurd rfl h391
theorem lw_8 {d al i Ls : Nat} {xs : Nat → Int32} {σ : pm_S} {Q : Option Value → pm_S → Prop} (hd : 101 ≤ d) (hi : i + 6 ≤ Ls) (hL : Ls ≤ 3072) (hJ : JJ Ls xs σ) (kk : ∀ τ, JJ Ls xs τ → PW d al pm_ML 895 [.ref 1, .ref 6, .ref 43, .int (nI i)] [] τ Q) : PW d (al + 2) pm_ML 396 [.ref 1, .ref 6, .ref 43, .int (nI i)] [] σ Q := by
  obtain ⟨hS, hf, -⟩ := id hJ
  have h68 := hS.1
  obtain ⟨i1, l1, v1⟩ := scr_of hf
  refine pw_aload_n dL_law_396 rfl ?_
  refine pw_aload_n dL_law_397 rfl ?_
  refine pw_iload_n dL_law_398 rfl ?_
  refine pw_iconst (v := 1) dL_law_399 (by decide) ?_
  refine pw_iadd dL_law_400 ?_
  refine pw_iald dL_law_401 i1 (nI_add i 1) (by rw [l1]; omega) (by omega) ?_
  rw [v1]
  refine pw_aload_n dL_law_402 rfl ?_
  refine pw_iload_n dL_law_403 rfl ?_
  refine pw_iconst (v := 2) dL_law_404 (by decide) ?_
  refine pw_iadd dL_law_405 ?_
  refine pw_iald dL_law_406 i1 (nI_add i 2) (by rw [l1]; omega) (by omega) ?_
  rw [v1]
  refine pw_cV2 (d1 := d - 1) (a1 := 2) (a2 := al) dL_law_407 mtX11_of ivX11_of mlL_50 (Nat.le_of_ble_eq_true rfl) (Nat.le_of_ble_eq_true rfl) (by omega) (by omega) (hS.at rfl rfl rfl) rfl rfl (PW.fr (d := 100) (by omega) (q_of hJ (xs (i + 1)) (xs (i + 2)))) ?_
  rintro r_ τ1 ⟨x, hr_, hf1, hm⟩; subst r_
  obtain ⟨i2, l2, v2⟩ := scr_of (hf.tr hf1)
  have i43 : pm_is τ1 43 12 := ⟨by decide, Nat.lt_of_lt_of_le (show 43 < qN σ by omega) hf1.1.1, (hf1.1.2 43 (by omega)).trans (hS.at (a := 43) rfl rfl rfl).2.2⟩
  refine pw_aload_n dL_law_410 rfl ?_
  refine pw_aload_n dL_law_411 rfl ?_
  refine pw_iload_n dL_law_412 rfl ?_
  refine pw_iconst (v := 1) dL_law_413 (by decide) ?_
  refine pw_iadd dL_law_414 ?_
  refine pw_iald dL_law_415 i2 (nI_add i 1) (by rw [l2]; omega) (by omega) ?_
  rw [v2]
  refine pw_aload_n dL_law_416 rfl ?_
  refine pw_iload_n dL_law_417 rfl ?_
  refine pw_iconst (v := 2) dL_law_418 (by decide) ?_
  refine pw_iadd dL_law_419 ?_
  refine pw_iald dL_law_420 i2 (nI_add i 2) (by rw [l2]; omega) (by omega) ?_
  rw [v2]
  refine pw_cV2 (d1 := d - 1) (a1 := 0) (a2 := al) dL_law_421 mtX12_of ivX12_of mlL_54 (Nat.le_of_ble_eq_true rfl) (Nat.le_of_ble_eq_true rfl) (by omega) (by omega) i43 rfl rfl (PW.fr (d := 100) (by omega) hm) ?_
  rintro r_ τ2 ⟨hr_, hJ2⟩; subst r_
  refine pw_icmp_eq (tgt := 895) dL_law_424 (by decide) (fun h424 => ?_) (fun h424 => ?_)
  · exact kk τ2 hJ2
  · exact absurd rfl h424
theorem lw_9 {d al i Ls : Nat} {xs : Nat → Int32} {σ : pm_S} {Q : Option Value → pm_S → Prop} (hd : 101 ≤ d) (hi : i + 6 ≤ Ls) (hL : Ls ≤ 3072) (hJ : JJ Ls xs σ) (kk : ∀ τ, JJ Ls xs τ → PW d al pm_ML 895 [.ref 1, .ref 6, .ref 43, .int (nI i)] [] τ Q) : PW d (al + 2) pm_ML 429 [.ref 1, .ref 6, .ref 43, .int (nI i)] [] σ Q := by
  obtain ⟨hS, hf, -⟩ := id hJ
  have h68 := hS.1
  obtain ⟨i1, l1, v1⟩ := scr_of hf
  refine pw_aload_n dL_law_429 rfl ?_
  refine pw_aload_n dL_law_430 rfl ?_
  refine pw_iload_n dL_law_431 rfl ?_
  refine pw_iconst (v := 1) dL_law_432 (by decide) ?_
  refine pw_iadd dL_law_433 ?_
  refine pw_iald dL_law_434 i1 (nI_add i 1) (by rw [l1]; omega) (by omega) ?_
  rw [v1]
  refine pw_aload_n dL_law_435 rfl ?_
  refine pw_iload_n dL_law_436 rfl ?_
  refine pw_iconst (v := 2) dL_law_437 (by decide) ?_
  refine pw_iadd dL_law_438 ?_
  refine pw_iald dL_law_439 i1 (nI_add i 2) (by rw [l1]; omega) (by omega) ?_
  rw [v1]
  refine pw_aload_n dL_law_440 rfl ?_
  refine pw_iload_n dL_law_441 rfl ?_
  refine pw_iconst (v := 3) dL_law_442 (by decide) ?_
  refine pw_iadd dL_law_443 ?_
  refine pw_iald dL_law_444 i1 (nI_add i 3) (by rw [l1]; omega) (by omega) ?_
  rw [v1]
  refine pw_cV3 (d1 := d - 1) (a1 := 2) (a2 := al) dL_law_445 mtX11_held ivX11_held mlL_55 (Nat.le_of_ble_eq_true rfl) (Nat.le_of_ble_eq_true rfl) (by omega) (by omega) (hS.at rfl rfl rfl) rfl rfl (PW.fr (d := 100) (by omega) (q_held hJ (xs (i + 1)) (xs (i + 2)) (xs (i + 3)))) ?_
  rintro r_ τ1 ⟨x, hr_, hf1, hm⟩; subst r_
  obtain ⟨i2, l2, v2⟩ := scr_of (hf.tr hf1)
  have i43 : pm_is τ1 43 12 := ⟨by decide, Nat.lt_of_lt_of_le (show 43 < qN σ by omega) hf1.1.1, (hf1.1.2 43 (by omega)).trans (hS.at (a := 43) rfl rfl rfl).2.2⟩
  refine pw_aload_n dL_law_448 rfl ?_
  refine pw_aload_n dL_law_449 rfl ?_
  refine pw_iload_n dL_law_450 rfl ?_
  refine pw_iconst (v := 1) dL_law_451 (by decide) ?_
  refine pw_iadd dL_law_452 ?_
  refine pw_iald dL_law_453 i2 (nI_add i 1) (by rw [l2]; omega) (by omega) ?_
  rw [v2]
  refine pw_aload_n dL_law_454 rfl ?_
  refine pw_iload_n dL_law_455 rfl ?_
  refine pw_iconst (v := 2) dL_law_456 (by decide) ?_
  refine pw_iadd dL_law_457 ?_
  refine pw_iald dL_law_458 i2 (nI_add i 2) (by rw [l2]; omega) (by omega) ?_
  rw [v2]
  refine pw_aload_n dL_law_459 rfl ?_
  refine pw_iload_n dL_law_460 rfl ?_
  refine pw_iconst (v := 3) dL_law_461 (by decide) ?_
  refine pw_iadd dL_law_462 ?_
  refine pw_iald dL_law_463 i2 (nI_add i 3) (by rw [l2]; omega) (by omega) ?_
  rw [v2]
  refine pw_cV3 (d1 := d - 1) (a1 := 0) (a2 := al) dL_law_464 mtX12_held ivX12_held mlL_58 (Nat.le_of_ble_eq_true rfl) (Nat.le_of_ble_eq_true rfl) (by omega) (by omega) i43 rfl rfl (PW.fr (d := 100) (by omega) hm) ?_
  rintro r_ τ2 ⟨hr_, hJ2⟩; subst r_
  refine pw_icmp_eq (tgt := 895) dL_law_467 (by decide) (fun h467 => ?_) (fun h467 => ?_)
  · exact kk τ2 hJ2
  · exact absurd rfl h467
theorem lw_10 {d al i Ls : Nat} {xs : Nat → Int32} {σ : pm_S} {Q : Option Value → pm_S → Prop} (hd : 101 ≤ d) (hi : i + 6 ≤ Ls) (hL : Ls ≤ 3072) (hJ : JJ Ls xs σ) (kk : ∀ τ, JJ Ls xs τ → PW d al pm_ML 895 [.ref 1, .ref 6, .ref 43, .int (nI i)] [] τ Q) : PW d (al + 2) pm_ML 472 [.ref 1, .ref 6, .ref 43, .int (nI i)] [] σ Q := by
  obtain ⟨hS, hf, -⟩ := id hJ
  have h68 := hS.1
  obtain ⟨i1, l1, v1⟩ := scr_of hf
  refine pw_aload_n dL_law_472 rfl ?_
  refine pw_aload_n dL_law_473 rfl ?_
  refine pw_iload_n dL_law_474 rfl ?_
  refine pw_iconst (v := 1) dL_law_475 (by decide) ?_
  refine pw_iadd dL_law_476 ?_
  refine pw_iald dL_law_477 i1 (nI_add i 1) (by rw [l1]; omega) (by omega) ?_
  rw [v1]
  refine pw_aload_n dL_law_478 rfl ?_
  refine pw_iload_n dL_law_479 rfl ?_
  refine pw_iconst (v := 2) dL_law_480 (by decide) ?_
  refine pw_iadd dL_law_481 ?_
  refine pw_iald dL_law_482 i1 (nI_add i 2) (by rw [l1]; omega) (by omega) ?_
  rw [v1]
  refine pw_cV2 (d1 := d - 1) (a1 := 2) (a2 := al) dL_law_483 mtX11_owners ivX11_owners mlL_59 (Nat.le_of_ble_eq_true rfl) (Nat.le_of_ble_eq_true rfl) (by omega) (by omega) (hS.at rfl rfl rfl) rfl rfl (PW.fr (d := 100) (by omega) (q_owners hJ (xs (i + 1)) (xs (i + 2)))) ?_
  rintro r_ τ1 ⟨x, hr_, hf1, hm⟩; subst r_
  obtain ⟨i2, l2, v2⟩ := scr_of (hf.tr hf1)
  have i43 : pm_is τ1 43 12 := ⟨by decide, Nat.lt_of_lt_of_le (show 43 < qN σ by omega) hf1.1.1, (hf1.1.2 43 (by omega)).trans (hS.at (a := 43) rfl rfl rfl).2.2⟩
  refine pw_aload_n dL_law_486 rfl ?_
  refine pw_aload_n dL_law_487 rfl ?_
  refine pw_iload_n dL_law_488 rfl ?_
  refine pw_iconst (v := 1) dL_law_489 (by decide) ?_
  refine pw_iadd dL_law_490 ?_
  refine pw_iald dL_law_491 i2 (nI_add i 1) (by rw [l2]; omega) (by omega) ?_
  rw [v2]
  refine pw_aload_n dL_law_492 rfl ?_
  refine pw_iload_n dL_law_493 rfl ?_
  refine pw_iconst (v := 2) dL_law_494 (by decide) ?_
  refine pw_iadd dL_law_495 ?_
  refine pw_iald dL_law_496 i2 (nI_add i 2) (by rw [l2]; omega) (by omega) ?_
  rw [v2]
  refine pw_cV2 (d1 := d - 1) (a1 := 0) (a2 := al) dL_law_497 mtX12_owners ivX12_owners mlL_62 (Nat.le_of_ble_eq_true rfl) (Nat.le_of_ble_eq_true rfl) (by omega) (by omega) i43 rfl rfl (PW.fr (d := 100) (by omega) hm) ?_
  rintro r_ τ2 ⟨hr_, hJ2⟩; subst r_
  refine pw_icmp_eq (tgt := 895) dL_law_500 (by decide) (fun h500 => ?_) (fun h500 => ?_)
  · exact kk τ2 hJ2
  · exact absurd rfl h500
theorem lw_11 {d al i Ls : Nat} {xs : Nat → Int32} {σ : pm_S} {Q : Option Value → pm_S → Prop} (hd : 101 ≤ d) (hi : i + 6 ≤ Ls) (hL : Ls ≤ 3072) (hJ : JJ Ls xs σ) (kk : ∀ τ, JJ Ls xs τ → PW d al pm_ML 895 [.ref 1, .ref 6, .ref 43, .int (nI i)] [] τ Q) : PW d (al + 2) pm_ML 505 [.ref 1, .ref 6, .ref 43, .int (nI i)] [] σ Q := by
  obtain ⟨hS, hf, -⟩ := id hJ
  have h68 := hS.1
  obtain ⟨i1, l1, v1⟩ := scr_of hf
  refine pw_aload_n dL_law_505 rfl ?_
  refine pw_aload_n dL_law_506 rfl ?_
  refine pw_iload_n dL_law_507 rfl ?_
  refine pw_iconst (v := 1) dL_law_508 (by decide) ?_
  refine pw_iadd dL_law_509 ?_
  refine pw_iald dL_law_510 i1 (nI_add i 1) (by rw [l1]; omega) (by omega) ?_
  rw [v1]
  refine pw_aload_n dL_law_511 rfl ?_
  refine pw_iload_n dL_law_512 rfl ?_
  refine pw_iconst (v := 2) dL_law_513 (by decide) ?_
  refine pw_iadd dL_law_514 ?_
  refine pw_iald dL_law_515 i1 (nI_add i 2) (by rw [l1]; omega) (by omega) ?_
  rw [v1]
  refine pw_aload_n dL_law_516 rfl ?_
  refine pw_iload_n dL_law_517 rfl ?_
  refine pw_iconst (v := 3) dL_law_518 (by decide) ?_
  refine pw_iadd dL_law_519 ?_
  refine pw_iald dL_law_520 i1 (nI_add i 3) (by rw [l1]; omega) (by omega) ?_
  rw [v1]
  refine pw_aload_n dL_law_521 rfl ?_
  refine pw_iload_n dL_law_522 rfl ?_
  refine pw_iconst (v := 4) dL_law_523 (by decide) ?_
  refine pw_iadd dL_law_524 ?_
  refine pw_iald dL_law_525 i1 (nI_add i 4) (by rw [l1]; omega) (by omega) ?_
  rw [v1]
  refine pw_cV4 (d1 := d - 1) (a1 := 2) (a2 := al) dL_law_526 mtX11_gather ivX11_gather mlL_63 (Nat.le_of_ble_eq_true rfl) (Nat.le_of_ble_eq_true rfl) (by omega) (by omega) (hS.at rfl rfl rfl) rfl rfl (PW.fr (d := 100) (by omega) (q_gather hJ (xs (i + 1)) (xs (i + 2)) (xs (i + 3)) (xs (i + 4)))) ?_
  rintro r_ τ1 ⟨x, hr_, hf1, hm⟩; subst r_
  obtain ⟨i2, l2, v2⟩ := scr_of (hf.tr hf1)
  have i43 : pm_is τ1 43 12 := ⟨by decide, Nat.lt_of_lt_of_le (show 43 < qN σ by omega) hf1.1.1, (hf1.1.2 43 (by omega)).trans (hS.at (a := 43) rfl rfl rfl).2.2⟩
  refine pw_aload_n dL_law_529 rfl ?_
  refine pw_aload_n dL_law_530 rfl ?_
  refine pw_iload_n dL_law_531 rfl ?_
  refine pw_iconst (v := 1) dL_law_532 (by decide) ?_
  refine pw_iadd dL_law_533 ?_
  refine pw_iald dL_law_534 i2 (nI_add i 1) (by rw [l2]; omega) (by omega) ?_
  rw [v2]
  refine pw_aload_n dL_law_535 rfl ?_
  refine pw_iload_n dL_law_536 rfl ?_
  refine pw_iconst (v := 2) dL_law_537 (by decide) ?_
  refine pw_iadd dL_law_538 ?_
  refine pw_iald dL_law_539 i2 (nI_add i 2) (by rw [l2]; omega) (by omega) ?_
  rw [v2]
  refine pw_aload_n dL_law_540 rfl ?_
  refine pw_iload_n dL_law_541 rfl ?_
  refine pw_iconst (v := 3) dL_law_542 (by decide) ?_
  refine pw_iadd dL_law_543 ?_
  refine pw_iald dL_law_544 i2 (nI_add i 3) (by rw [l2]; omega) (by omega) ?_
  rw [v2]
  refine pw_aload_n dL_law_545 rfl ?_
  refine pw_iload_n dL_law_546 rfl ?_
  refine pw_iconst (v := 4) dL_law_547 (by decide) ?_
  refine pw_iadd dL_law_548 ?_
  refine pw_iald dL_law_549 i2 (nI_add i 4) (by rw [l2]; omega) (by omega) ?_
  rw [v2]
  refine pw_cV4 (d1 := d - 1) (a1 := 0) (a2 := al) dL_law_550 mtX12_gather ivX12_gather mlL_67 (Nat.le_of_ble_eq_true rfl) (Nat.le_of_ble_eq_true rfl) (by omega) (by omega) i43 rfl rfl (PW.fr (d := 100) (by omega) hm) ?_
  rintro r_ τ2 ⟨hr_, hJ2⟩; subst r_
  refine pw_icmp_eq (tgt := 895) dL_law_553 (by decide) (fun h553 => ?_) (fun h553 => ?_)
  · exact kk τ2 hJ2
  · exact absurd rfl h553
theorem lw_12 {d al i Ls : Nat} {xs : Nat → Int32} {σ : pm_S} {Q : Option Value → pm_S → Prop} (hd : 101 ≤ d) (hi : i + 6 ≤ Ls) (hL : Ls ≤ 3072) (hJ : JJ Ls xs σ) (kk : ∀ τ, JJ Ls xs τ → PW d al pm_ML 895 [.ref 1, .ref 6, .ref 43, .int (nI i)] [] τ Q) : PW d (al + 2) pm_ML 558 [.ref 1, .ref 6, .ref 43, .int (nI i)] [] σ Q := by
  obtain ⟨hS, hf, -⟩ := id hJ
  have h68 := hS.1
  obtain ⟨i1, l1, v1⟩ := scr_of hf
  refine pw_aload_n dL_law_558 rfl ?_
  refine pw_aload_n dL_law_559 rfl ?_
  refine pw_iload_n dL_law_560 rfl ?_
  refine pw_iconst (v := 1) dL_law_561 (by decide) ?_
  refine pw_iadd dL_law_562 ?_
  refine pw_iald dL_law_563 i1 (nI_add i 1) (by rw [l1]; omega) (by omega) ?_
  rw [v1]
  refine pw_aload_n dL_law_564 rfl ?_
  refine pw_iload_n dL_law_565 rfl ?_
  refine pw_iconst (v := 2) dL_law_566 (by decide) ?_
  refine pw_iadd dL_law_567 ?_
  refine pw_iald dL_law_568 i1 (nI_add i 2) (by rw [l1]; omega) (by omega) ?_
  rw [v1]
  refine pw_cV2 (d1 := d - 1) (a1 := 2) (a2 := al) dL_law_569 mtX11_gathering ivX11_gathering mlL_68 (Nat.le_of_ble_eq_true rfl) (Nat.le_of_ble_eq_true rfl) (by omega) (by omega) (hS.at rfl rfl rfl) rfl rfl (PW.fr (d := 100) (by omega) (q_gathering hJ (xs (i + 1)) (xs (i + 2)))) ?_
  rintro r_ τ1 ⟨x, hr_, hf1, hm⟩; subst r_
  obtain ⟨i2, l2, v2⟩ := scr_of (hf.tr hf1)
  have i43 : pm_is τ1 43 12 := ⟨by decide, Nat.lt_of_lt_of_le (show 43 < qN σ by omega) hf1.1.1, (hf1.1.2 43 (by omega)).trans (hS.at (a := 43) rfl rfl rfl).2.2⟩
  refine pw_aload_n dL_law_572 rfl ?_
  refine pw_aload_n dL_law_573 rfl ?_
  refine pw_iload_n dL_law_574 rfl ?_
  refine pw_iconst (v := 1) dL_law_575 (by decide) ?_
  refine pw_iadd dL_law_576 ?_
  refine pw_iald dL_law_577 i2 (nI_add i 1) (by rw [l2]; omega) (by omega) ?_
  rw [v2]
  refine pw_aload_n dL_law_578 rfl ?_
  refine pw_iload_n dL_law_579 rfl ?_
  refine pw_iconst (v := 2) dL_law_580 (by decide) ?_
  refine pw_iadd dL_law_581 ?_
  refine pw_iald dL_law_582 i2 (nI_add i 2) (by rw [l2]; omega) (by omega) ?_
  rw [v2]
  refine pw_cV2 (d1 := d - 1) (a1 := 0) (a2 := al) dL_law_583 mtX12_gathering ivX12_gathering mlL_71 (Nat.le_of_ble_eq_true rfl) (Nat.le_of_ble_eq_true rfl) (by omega) (by omega) i43 rfl rfl (PW.fr (d := 100) (by omega) hm) ?_
  rintro r_ τ2 ⟨hr_, hJ2⟩; subst r_
  refine pw_icmp_eq (tgt := 895) dL_law_586 (by decide) (fun h586 => ?_) (fun h586 => ?_)
  · exact kk τ2 hJ2
  · exact absurd rfl h586
theorem lw_13 {d al i Ls : Nat} {xs : Nat → Int32} {σ : pm_S} {Q : Option Value → pm_S → Prop} (hd : 101 ≤ d) (hi : i + 6 ≤ Ls) (hL : Ls ≤ 3072) (hJ : JJ Ls xs σ) (kk : ∀ τ, JJ Ls xs τ → PW d al pm_ML 895 [.ref 1, .ref 6, .ref 43, .int (nI i)] [] τ Q) : PW d (al + 2) pm_ML 591 [.ref 1, .ref 6, .ref 43, .int (nI i)] [] σ Q := by
  obtain ⟨hS, hf, -⟩ := id hJ
  have h68 := hS.1
  obtain ⟨i1, l1, v1⟩ := scr_of hf
  refine pw_aload_n dL_law_591 rfl ?_
  refine pw_aload_n dL_law_592 rfl ?_
  refine pw_iload_n dL_law_593 rfl ?_
  refine pw_iconst (v := 1) dL_law_594 (by decide) ?_
  refine pw_iadd dL_law_595 ?_
  refine pw_iald dL_law_596 i1 (nI_add i 1) (by rw [l1]; omega) (by omega) ?_
  rw [v1]
  refine pw_aload_n dL_law_597 rfl ?_
  refine pw_iload_n dL_law_598 rfl ?_
  refine pw_iconst (v := 2) dL_law_599 (by decide) ?_
  refine pw_iadd dL_law_600 ?_
  refine pw_iald dL_law_601 i1 (nI_add i 2) (by rw [l1]; omega) (by omega) ?_
  rw [v1]
  refine pw_aload_n dL_law_602 rfl ?_
  refine pw_iload_n dL_law_603 rfl ?_
  refine pw_iconst (v := 3) dL_law_604 (by decide) ?_
  refine pw_iadd dL_law_605 ?_
  refine pw_iald dL_law_606 i1 (nI_add i 3) (by rw [l1]; omega) (by omega) ?_
  rw [v1]
  refine pw_cV3 (d1 := d - 1) (a1 := 2) (a2 := al) dL_law_607 mtX11_seen ivX11_seen mlL_72 (Nat.le_of_ble_eq_true rfl) (Nat.le_of_ble_eq_true rfl) (by omega) (by omega) (hS.at rfl rfl rfl) rfl rfl (PW.fr (d := 100) (by omega) (q_seen hJ (xs (i + 1)) (xs (i + 2)) (xs (i + 3)))) ?_
  rintro r_ τ1 ⟨x, hr_, hf1, hm⟩; subst r_
  obtain ⟨i2, l2, v2⟩ := scr_of (hf.tr hf1)
  have i43 : pm_is τ1 43 12 := ⟨by decide, Nat.lt_of_lt_of_le (show 43 < qN σ by omega) hf1.1.1, (hf1.1.2 43 (by omega)).trans (hS.at (a := 43) rfl rfl rfl).2.2⟩
  refine pw_aload_n dL_law_610 rfl ?_
  refine pw_aload_n dL_law_611 rfl ?_
  refine pw_iload_n dL_law_612 rfl ?_
  refine pw_iconst (v := 1) dL_law_613 (by decide) ?_
  refine pw_iadd dL_law_614 ?_
  refine pw_iald dL_law_615 i2 (nI_add i 1) (by rw [l2]; omega) (by omega) ?_
  rw [v2]
  refine pw_aload_n dL_law_616 rfl ?_
  refine pw_iload_n dL_law_617 rfl ?_
  refine pw_iconst (v := 2) dL_law_618 (by decide) ?_
  refine pw_iadd dL_law_619 ?_
  refine pw_iald dL_law_620 i2 (nI_add i 2) (by rw [l2]; omega) (by omega) ?_
  rw [v2]
  refine pw_aload_n dL_law_621 rfl ?_
  refine pw_iload_n dL_law_622 rfl ?_
  refine pw_iconst (v := 3) dL_law_623 (by decide) ?_
  refine pw_iadd dL_law_624 ?_
  refine pw_iald dL_law_625 i2 (nI_add i 3) (by rw [l2]; omega) (by omega) ?_
  rw [v2]
  refine pw_cV3 (d1 := d - 1) (a1 := 0) (a2 := al) dL_law_626 mtX12_seen ivX12_seen mlL_75 (Nat.le_of_ble_eq_true rfl) (Nat.le_of_ble_eq_true rfl) (by omega) (by omega) i43 rfl rfl (PW.fr (d := 100) (by omega) hm) ?_
  rintro r_ τ2 ⟨hr_, hJ2⟩; subst r_
  refine pw_icmp_eq (tgt := 895) dL_law_629 (by decide) (fun h629 => ?_) (fun h629 => ?_)
  · exact kk τ2 hJ2
  · exact absurd rfl h629
theorem lw_14 {d al i Ls : Nat} {xs : Nat → Int32} {σ : pm_S} {Q : Option Value → pm_S → Prop} (hd : 101 ≤ d) (hi : i + 6 ≤ Ls) (hL : Ls ≤ 3072) (hJ : JJ Ls xs σ) (kk : ∀ τ, JJ Ls xs τ → PW d al pm_ML 895 [.ref 1, .ref 6, .ref 43, .int (nI i)] [] τ Q) : PW d (al + 2) pm_ML 634 [.ref 1, .ref 6, .ref 43, .int (nI i)] [] σ Q := by
  obtain ⟨hS, hf, -⟩ := id hJ
  have h68 := hS.1
  obtain ⟨i1, l1, v1⟩ := scr_of hf
  refine pw_aload_n dL_law_634 rfl ?_
  refine pw_aload_n dL_law_635 rfl ?_
  refine pw_iload_n dL_law_636 rfl ?_
  refine pw_iconst (v := 1) dL_law_637 (by decide) ?_
  refine pw_iadd dL_law_638 ?_
  refine pw_iald dL_law_639 i1 (nI_add i 1) (by rw [l1]; omega) (by omega) ?_
  rw [v1]
  refine pw_aload_n dL_law_640 rfl ?_
  refine pw_iload_n dL_law_641 rfl ?_
  refine pw_iconst (v := 2) dL_law_642 (by decide) ?_
  refine pw_iadd dL_law_643 ?_
  refine pw_iald dL_law_644 i1 (nI_add i 2) (by rw [l1]; omega) (by omega) ?_
  rw [v1]
  refine pw_cV2 (d1 := d - 1) (a1 := 2) (a2 := al) dL_law_645 mtX11_again ivX11_again mlL_76 (Nat.le_of_ble_eq_true rfl) (Nat.le_of_ble_eq_true rfl) (by omega) (by omega) (hS.at rfl rfl rfl) rfl rfl (PW.fr (d := 100) (by omega) (q_again hJ (xs (i + 1)) (xs (i + 2)))) ?_
  rintro r_ τ1 ⟨x, hr_, hf1, hm⟩; subst r_
  obtain ⟨i2, l2, v2⟩ := scr_of (hf.tr hf1)
  have i43 : pm_is τ1 43 12 := ⟨by decide, Nat.lt_of_lt_of_le (show 43 < qN σ by omega) hf1.1.1, (hf1.1.2 43 (by omega)).trans (hS.at (a := 43) rfl rfl rfl).2.2⟩
  refine pw_aload_n dL_law_648 rfl ?_
  refine pw_aload_n dL_law_649 rfl ?_
  refine pw_iload_n dL_law_650 rfl ?_
  refine pw_iconst (v := 1) dL_law_651 (by decide) ?_
  refine pw_iadd dL_law_652 ?_
  refine pw_iald dL_law_653 i2 (nI_add i 1) (by rw [l2]; omega) (by omega) ?_
  rw [v2]
  refine pw_aload_n dL_law_654 rfl ?_
  refine pw_iload_n dL_law_655 rfl ?_
  refine pw_iconst (v := 2) dL_law_656 (by decide) ?_
  refine pw_iadd dL_law_657 ?_
  refine pw_iald dL_law_658 i2 (nI_add i 2) (by rw [l2]; omega) (by omega) ?_
  rw [v2]
  refine pw_cV2 (d1 := d - 1) (a1 := 0) (a2 := al) dL_law_659 mtX12_again ivX12_again mlL_79 (Nat.le_of_ble_eq_true rfl) (Nat.le_of_ble_eq_true rfl) (by omega) (by omega) i43 rfl rfl (PW.fr (d := 100) (by omega) hm) ?_
  rintro r_ τ2 ⟨hr_, hJ2⟩; subst r_
  refine pw_icmp_eq (tgt := 895) dL_law_662 (by decide) (fun h662 => ?_) (fun h662 => ?_)
  · exact kk τ2 hJ2
  · exact absurd rfl h662
theorem lw_15 {d al i Ls : Nat} {xs : Nat → Int32} {σ : pm_S} {Q : Option Value → pm_S → Prop} (hd : 101 ≤ d) (hi : i + 6 ≤ Ls) (hL : Ls ≤ 3072) (hJ : JJ Ls xs σ) (kk : ∀ τ, JJ Ls xs τ → PW d al pm_ML 895 [.ref 1, .ref 6, .ref 43, .int (nI i)] [] τ Q) : PW d (al + 2) pm_ML 667 [.ref 1, .ref 6, .ref 43, .int (nI i)] [] σ Q := by
  obtain ⟨hS, hf, -⟩ := id hJ
  have h68 := hS.1
  obtain ⟨i1, l1, v1⟩ := scr_of hf
  refine pw_aload_n dL_law_667 rfl ?_
  refine pw_aload_n dL_law_668 rfl ?_
  refine pw_iload_n dL_law_669 rfl ?_
  refine pw_iconst (v := 1) dL_law_670 (by decide) ?_
  refine pw_iadd dL_law_671 ?_
  refine pw_iald dL_law_672 i1 (nI_add i 1) (by rw [l1]; omega) (by omega) ?_
  rw [v1]
  refine pw_aload_n dL_law_673 rfl ?_
  refine pw_iload_n dL_law_674 rfl ?_
  refine pw_iconst (v := 2) dL_law_675 (by decide) ?_
  refine pw_iadd dL_law_676 ?_
  refine pw_iald dL_law_677 i1 (nI_add i 2) (by rw [l1]; omega) (by omega) ?_
  rw [v1]
  refine pw_aload_n dL_law_678 rfl ?_
  refine pw_iload_n dL_law_679 rfl ?_
  refine pw_iconst (v := 3) dL_law_680 (by decide) ?_
  refine pw_iadd dL_law_681 ?_
  refine pw_iald dL_law_682 i1 (nI_add i 3) (by rw [l1]; omega) (by omega) ?_
  rw [v1]
  refine pw_aload_n dL_law_683 rfl ?_
  refine pw_iload_n dL_law_684 rfl ?_
  refine pw_iconst (v := 4) dL_law_685 (by decide) ?_
  refine pw_iadd dL_law_686 ?_
  refine pw_iald dL_law_687 i1 (nI_add i 4) (by rw [l1]; omega) (by omega) ?_
  rw [v1]
  refine pw_aload_n dL_law_688 rfl ?_
  refine pw_iload_n dL_law_689 rfl ?_
  refine pw_iconst (v := 5) dL_law_690 (by decide) ?_
  refine pw_iadd dL_law_691 ?_
  refine pw_iald dL_law_692 i1 (nI_add i 5) (by rw [l1]; omega) (by omega) ?_
  rw [v1]
  refine pw_cV5 (d1 := d - 1) (a1 := 2) (a2 := al) dL_law_693 mtX11_feed ivX11_feed mlL_80 (Nat.le_of_ble_eq_true rfl) (Nat.le_of_ble_eq_true rfl) (by omega) (by omega) (hS.at rfl rfl rfl) rfl rfl (PW.fr (d := 100) (by omega) (q_feed hJ (xs (i + 1)) (xs (i + 2)) (xs (i + 3)) (xs (i + 4)) (xs (i + 5)))) ?_
  rintro r_ τ1 ⟨x, hr_, hf1, hm⟩; subst r_
  obtain ⟨i2, l2, v2⟩ := scr_of (hf.tr hf1)
  have i43 : pm_is τ1 43 12 := ⟨by decide, Nat.lt_of_lt_of_le (show 43 < qN σ by omega) hf1.1.1, (hf1.1.2 43 (by omega)).trans (hS.at (a := 43) rfl rfl rfl).2.2⟩
  refine pw_aload_n dL_law_696 rfl ?_
  refine pw_aload_n dL_law_697 rfl ?_
  refine pw_iload_n dL_law_698 rfl ?_
  refine pw_iconst (v := 1) dL_law_699 (by decide) ?_
  refine pw_iadd dL_law_700 ?_
  refine pw_iald dL_law_701 i2 (nI_add i 1) (by rw [l2]; omega) (by omega) ?_
  rw [v2]
  refine pw_aload_n dL_law_702 rfl ?_
  refine pw_iload_n dL_law_703 rfl ?_
  refine pw_iconst (v := 2) dL_law_704 (by decide) ?_
  refine pw_iadd dL_law_705 ?_
  refine pw_iald dL_law_706 i2 (nI_add i 2) (by rw [l2]; omega) (by omega) ?_
  rw [v2]
  refine pw_aload_n dL_law_707 rfl ?_
  refine pw_iload_n dL_law_708 rfl ?_
  refine pw_iconst (v := 3) dL_law_709 (by decide) ?_
  refine pw_iadd dL_law_710 ?_
  refine pw_iald dL_law_711 i2 (nI_add i 3) (by rw [l2]; omega) (by omega) ?_
  rw [v2]
  refine pw_aload_n dL_law_712 rfl ?_
  refine pw_iload_n dL_law_713 rfl ?_
  refine pw_iconst (v := 4) dL_law_714 (by decide) ?_
  refine pw_iadd dL_law_715 ?_
  refine pw_iald dL_law_716 i2 (nI_add i 4) (by rw [l2]; omega) (by omega) ?_
  rw [v2]
  refine pw_aload_n dL_law_717 rfl ?_
  refine pw_iload_n dL_law_718 rfl ?_
  refine pw_iconst (v := 5) dL_law_719 (by decide) ?_
  refine pw_iadd dL_law_720 ?_
  refine pw_iald dL_law_721 i2 (nI_add i 5) (by rw [l2]; omega) (by omega) ?_
  rw [v2]
  refine pw_cV5 (d1 := d - 1) (a1 := 0) (a2 := al) dL_law_722 mtX12_feed ivX12_feed mlL_83 (Nat.le_of_ble_eq_true rfl) (Nat.le_of_ble_eq_true rfl) (by omega) (by omega) i43 rfl rfl (PW.fr (d := 100) (by omega) hm) ?_
  rintro r_ τ2 ⟨hr_, hJ2⟩; subst r_
  refine pw_icmp_eq (tgt := 895) dL_law_725 (by decide) (fun h725 => ?_) (fun h725 => ?_)
  · exact kk τ2 hJ2
  · exact absurd rfl h725
theorem lw_16 {d al i Ls : Nat} {xs : Nat → Int32} {σ : pm_S} {Q : Option Value → pm_S → Prop} (hd : 101 ≤ d) (hi : i + 6 ≤ Ls) (hL : Ls ≤ 3072) (hJ : JJ Ls xs σ) (kk : ∀ τ, JJ Ls xs τ → PW d al pm_ML 895 [.ref 1, .ref 6, .ref 43, .int (nI i)] [] τ Q) : PW d (al + 2) pm_ML 730 [.ref 1, .ref 6, .ref 43, .int (nI i)] [] σ Q := by
  obtain ⟨hS, hf, -⟩ := id hJ
  have h68 := hS.1
  obtain ⟨i1, l1, v1⟩ := scr_of hf
  refine pw_aload_n dL_law_730 rfl ?_
  refine pw_aload_n dL_law_731 rfl ?_
  refine pw_iload_n dL_law_732 rfl ?_
  refine pw_iconst (v := 1) dL_law_733 (by decide) ?_
  refine pw_iadd dL_law_734 ?_
  refine pw_iald dL_law_735 i1 (nI_add i 1) (by rw [l1]; omega) (by omega) ?_
  rw [v1]
  refine pw_cV1 (d1 := d - 1) (a1 := 2) (a2 := al) dL_law_736 mtX11_end ivX11_end mlL_84 (Nat.le_of_ble_eq_true rfl) (Nat.le_of_ble_eq_true rfl) (by omega) (by omega) (hS.at rfl rfl rfl) rfl rfl (PW.fr (d := 100) (by omega) (q_end hJ (xs (i + 1)))) ?_
  rintro r_ τ1 ⟨x, hr_, hf1, hm⟩; subst r_
  obtain ⟨i2, l2, v2⟩ := scr_of (hf.tr hf1)
  have i43 : pm_is τ1 43 12 := ⟨by decide, Nat.lt_of_lt_of_le (show 43 < qN σ by omega) hf1.1.1, (hf1.1.2 43 (by omega)).trans (hS.at (a := 43) rfl rfl rfl).2.2⟩
  refine pw_aload_n dL_law_739 rfl ?_
  refine pw_aload_n dL_law_740 rfl ?_
  refine pw_iload_n dL_law_741 rfl ?_
  refine pw_iconst (v := 1) dL_law_742 (by decide) ?_
  refine pw_iadd dL_law_743 ?_
  refine pw_iald dL_law_744 i2 (nI_add i 1) (by rw [l2]; omega) (by omega) ?_
  rw [v2]
  refine pw_cV1 (d1 := d - 1) (a1 := 0) (a2 := al) dL_law_745 mtX12_end ivX12_end mlL_87 (Nat.le_of_ble_eq_true rfl) (Nat.le_of_ble_eq_true rfl) (by omega) (by omega) i43 rfl rfl (PW.fr (d := 100) (by omega) hm) ?_
  rintro r_ τ2 ⟨hr_, hJ2⟩; subst r_
  refine pw_icmp_eq (tgt := 895) dL_law_748 (by decide) (fun h748 => ?_) (fun h748 => ?_)
  · exact kk τ2 hJ2
  · exact absurd rfl h748
theorem lw_17 {d al i Ls : Nat} {xs : Nat → Int32} {σ : pm_S} {Q : Option Value → pm_S → Prop} (hd : 101 ≤ d) (hi : i + 6 ≤ Ls) (hL : Ls ≤ 3072) (hJ : JJ Ls xs σ) (kk : ∀ τ, JJ Ls xs τ → PW d al pm_ML 895 [.ref 1, .ref 6, .ref 43, .int (nI i)] [] τ Q) : PW d (al + 2) pm_ML 753 [.ref 1, .ref 6, .ref 43, .int (nI i)] [] σ Q := by
  obtain ⟨hS, hf, -⟩ := id hJ
  have h68 := hS.1
  obtain ⟨i1, l1, v1⟩ := scr_of hf
  refine pw_aload_n dL_law_753 rfl ?_
  refine pw_cV0 (d1 := d - 1) (a1 := 2) (a2 := al) dL_law_754 mtX11_rules ivX11_rules mlL_88 (Nat.le_of_ble_eq_true rfl) (Nat.le_of_ble_eq_true rfl) (by omega) (by omega) (hS.at rfl rfl rfl) rfl rfl (PW.fr (d := 100) (by omega) (q_rules hJ)) ?_
  rintro r_ τ1 ⟨x, hr_, hf1, hm⟩; subst r_
  obtain ⟨i2, l2, v2⟩ := scr_of (hf.tr hf1)
  have i43 : pm_is τ1 43 12 := ⟨by decide, Nat.lt_of_lt_of_le (show 43 < qN σ by omega) hf1.1.1, (hf1.1.2 43 (by omega)).trans (hS.at (a := 43) rfl rfl rfl).2.2⟩
  refine pw_aload_n dL_law_757 rfl ?_
  refine pw_cV0 (d1 := d - 1) (a1 := 0) (a2 := al) dL_law_758 mtX12_rules ivX12_rules mlL_92 (Nat.le_of_ble_eq_true rfl) (Nat.le_of_ble_eq_true rfl) (by omega) (by omega) i43 rfl rfl (PW.fr (d := 100) (by omega) hm) ?_
  rintro r_ τ2 ⟨hr_, hJ2⟩; subst r_
  refine pw_icmp_eq (tgt := 895) dL_law_761 (by decide) (fun h761 => ?_) (fun h761 => ?_)
  · exact kk τ2 hJ2
  · exact absurd rfl h761
theorem lw_18 {d al i Ls : Nat} {xs : Nat → Int32} {σ : pm_S} {Q : Option Value → pm_S → Prop} (hd : 101 ≤ d) (hi : i + 6 ≤ Ls) (hL : Ls ≤ 3072) (hJ : JJ Ls xs σ) (kk : ∀ τ, JJ Ls xs τ → PW d al pm_ML 895 [.ref 1, .ref 6, .ref 43, .int (nI i)] [] τ Q) : PW d (al + 2) pm_ML 766 [.ref 1, .ref 6, .ref 43, .int (nI i)] [] σ Q := by
  obtain ⟨hS, hf, -⟩ := id hJ
  have h68 := hS.1
  obtain ⟨i1, l1, v1⟩ := scr_of hf
  refine pw_aload_n dL_law_766 rfl ?_
  refine pw_aload_n dL_law_767 rfl ?_
  refine pw_iload_n dL_law_768 rfl ?_
  refine pw_iconst (v := 1) dL_law_769 (by decide) ?_
  refine pw_iadd dL_law_770 ?_
  refine pw_iald dL_law_771 i1 (nI_add i 1) (by rw [l1]; omega) (by omega) ?_
  rw [v1]
  refine pw_cV1 (d1 := d - 1) (a1 := 2) (a2 := al) dL_law_772 mtX11_fault ivX11_fault mlL_93 (Nat.le_of_ble_eq_true rfl) (Nat.le_of_ble_eq_true rfl) (by omega) (by omega) (hS.at rfl rfl rfl) rfl rfl (PW.fr (d := 100) (by omega) (q_fault hJ (xs (i + 1)))) ?_
  rintro r_ τ1 ⟨x, hr_, hf1, hm⟩; subst r_
  obtain ⟨i2, l2, v2⟩ := scr_of (hf.tr hf1)
  have i43 : pm_is τ1 43 12 := ⟨by decide, Nat.lt_of_lt_of_le (show 43 < qN σ by omega) hf1.1.1, (hf1.1.2 43 (by omega)).trans (hS.at (a := 43) rfl rfl rfl).2.2⟩
  refine pw_aload_n dL_law_775 rfl ?_
  refine pw_aload_n dL_law_776 rfl ?_
  refine pw_iload_n dL_law_777 rfl ?_
  refine pw_iconst (v := 1) dL_law_778 (by decide) ?_
  refine pw_iadd dL_law_779 ?_
  refine pw_iald dL_law_780 i2 (nI_add i 1) (by rw [l2]; omega) (by omega) ?_
  rw [v2]
  refine pw_cV1 (d1 := d - 1) (a1 := 0) (a2 := al) dL_law_781 mtX12_fault ivX12_fault mlL_96 (Nat.le_of_ble_eq_true rfl) (Nat.le_of_ble_eq_true rfl) (by omega) (by omega) i43 rfl rfl (PW.fr (d := 100) (by omega) hm) ?_
  rintro r_ τ2 ⟨hr_, hJ2⟩; subst r_
  refine pw_icmp_eq (tgt := 895) dL_law_784 (by decide) (fun h784 => ?_) (fun h784 => ?_)
  · exact kk τ2 hJ2
  · exact absurd rfl h784
theorem lw_19 {d al i Ls : Nat} {xs : Nat → Int32} {σ : pm_S} {Q : Option Value → pm_S → Prop} (hd : 101 ≤ d) (hi : i + 6 ≤ Ls) (hL : Ls ≤ 3072) (hJ : JJ Ls xs σ) (kk : ∀ τ, JJ Ls xs τ → PW d al pm_ML 895 [.ref 1, .ref 6, .ref 43, .int (nI i)] [] τ Q) : PW d (al + 2) pm_ML 789 [.ref 1, .ref 6, .ref 43, .int (nI i)] [] σ Q := by
  obtain ⟨hS, hf, -⟩ := id hJ
  have h68 := hS.1
  obtain ⟨i1, l1, v1⟩ := scr_of hf
  refine pw_aload_n dL_law_789 rfl ?_
  refine pw_aload_n dL_law_790 rfl ?_
  refine pw_iload_n dL_law_791 rfl ?_
  refine pw_iconst (v := 1) dL_law_792 (by decide) ?_
  refine pw_iadd dL_law_793 ?_
  refine pw_iald dL_law_794 i1 (nI_add i 1) (by rw [l1]; omega) (by omega) ?_
  rw [v1]
  refine pw_aload_n dL_law_795 rfl ?_
  refine pw_iload_n dL_law_796 rfl ?_
  refine pw_iconst (v := 2) dL_law_797 (by decide) ?_
  refine pw_iadd dL_law_798 ?_
  refine pw_iald dL_law_799 i1 (nI_add i 2) (by rw [l1]; omega) (by omega) ?_
  rw [v1]
  refine pw_aload_n dL_law_800 rfl ?_
  refine pw_iload_n dL_law_801 rfl ?_
  refine pw_iconst (v := 3) dL_law_802 (by decide) ?_
  refine pw_iadd dL_law_803 ?_
  refine pw_iald dL_law_804 i1 (nI_add i 3) (by rw [l1]; omega) (by omega) ?_
  rw [v1]
  refine pw_cV3 (d1 := d - 1) (a1 := 2) (a2 := al) dL_law_805 mtX11_barred ivX11_barred mlL_97 (Nat.le_of_ble_eq_true rfl) (Nat.le_of_ble_eq_true rfl) (by omega) (by omega) (hS.at rfl rfl rfl) rfl rfl (PW.fr (d := 100) (by omega) (q_barred hJ (xs (i + 1)) (xs (i + 2)) (xs (i + 3)))) ?_
  rintro r_ τ1 ⟨x, hr_, hf1, hm⟩; subst r_
  obtain ⟨i2, l2, v2⟩ := scr_of (hf.tr hf1)
  have i43 : pm_is τ1 43 12 := ⟨by decide, Nat.lt_of_lt_of_le (show 43 < qN σ by omega) hf1.1.1, (hf1.1.2 43 (by omega)).trans (hS.at (a := 43) rfl rfl rfl).2.2⟩
  refine pw_aload_n dL_law_808 rfl ?_
  refine pw_aload_n dL_law_809 rfl ?_
  refine pw_iload_n dL_law_810 rfl ?_
  refine pw_iconst (v := 1) dL_law_811 (by decide) ?_
  refine pw_iadd dL_law_812 ?_
  refine pw_iald dL_law_813 i2 (nI_add i 1) (by rw [l2]; omega) (by omega) ?_
  rw [v2]
  refine pw_aload_n dL_law_814 rfl ?_
  refine pw_iload_n dL_law_815 rfl ?_
  refine pw_iconst (v := 2) dL_law_816 (by decide) ?_
  refine pw_iadd dL_law_817 ?_
  refine pw_iald dL_law_818 i2 (nI_add i 2) (by rw [l2]; omega) (by omega) ?_
  rw [v2]
  refine pw_aload_n dL_law_819 rfl ?_
  refine pw_iload_n dL_law_820 rfl ?_
  refine pw_iconst (v := 3) dL_law_821 (by decide) ?_
  refine pw_iadd dL_law_822 ?_
  refine pw_iald dL_law_823 i2 (nI_add i 3) (by rw [l2]; omega) (by omega) ?_
  rw [v2]
  refine pw_cV3 (d1 := d - 1) (a1 := 0) (a2 := al) dL_law_824 mtX12_barred ivX12_barred mlL_100 (Nat.le_of_ble_eq_true rfl) (Nat.le_of_ble_eq_true rfl) (by omega) (by omega) i43 rfl rfl (PW.fr (d := 100) (by omega) hm) ?_
  rintro r_ τ2 ⟨hr_, hJ2⟩; subst r_
  refine pw_icmp_eq (tgt := 895) dL_law_827 (by decide) (fun h827 => ?_) (fun h827 => ?_)
  · exact kk τ2 hJ2
  · exact absurd rfl h827
theorem lw_20 {d al i Ls : Nat} {xs : Nat → Int32} {σ : pm_S} {Q : Option Value → pm_S → Prop} (hd : 101 ≤ d) (hi : i + 6 ≤ Ls) (hL : Ls ≤ 3072) (hJ : JJ Ls xs σ) (kk : ∀ τ, JJ Ls xs τ → PW d al pm_ML 895 [.ref 1, .ref 6, .ref 43, .int (nI i)] [] τ Q) : PW d (al + 2) pm_ML 832 [.ref 1, .ref 6, .ref 43, .int (nI i)] [] σ Q := by
  obtain ⟨hS, hf, -⟩ := id hJ
  have h68 := hS.1
  obtain ⟨i1, l1, v1⟩ := scr_of hf
  refine pw_aload_n dL_law_832 rfl ?_
  refine pw_aload_n dL_law_833 rfl ?_
  refine pw_iload_n dL_law_834 rfl ?_
  refine pw_iconst (v := 1) dL_law_835 (by decide) ?_
  refine pw_iadd dL_law_836 ?_
  refine pw_iald dL_law_837 i1 (nI_add i 1) (by rw [l1]; omega) (by omega) ?_
  rw [v1]
  refine pw_aload_n dL_law_838 rfl ?_
  refine pw_iload_n dL_law_839 rfl ?_
  refine pw_iconst (v := 2) dL_law_840 (by decide) ?_
  refine pw_iadd dL_law_841 ?_
  refine pw_iald dL_law_842 i1 (nI_add i 2) (by rw [l1]; omega) (by omega) ?_
  rw [v1]
  refine pw_aload_n dL_law_843 rfl ?_
  refine pw_iload_n dL_law_844 rfl ?_
  refine pw_iconst (v := 3) dL_law_845 (by decide) ?_
  refine pw_iadd dL_law_846 ?_
  refine pw_iald dL_law_847 i1 (nI_add i 3) (by rw [l1]; omega) (by omega) ?_
  rw [v1]
  refine pw_aload_n dL_law_848 rfl ?_
  refine pw_iload_n dL_law_849 rfl ?_
  refine pw_iconst (v := 4) dL_law_850 (by decide) ?_
  refine pw_iadd dL_law_851 ?_
  refine pw_iald dL_law_852 i1 (nI_add i 4) (by rw [l1]; omega) (by omega) ?_
  rw [v1]
  refine pw_aload_n dL_law_853 rfl ?_
  refine pw_iload_n dL_law_854 rfl ?_
  refine pw_iconst (v := 5) dL_law_855 (by decide) ?_
  refine pw_iadd dL_law_856 ?_
  refine pw_iald dL_law_857 i1 (nI_add i 5) (by rw [l1]; omega) (by omega) ?_
  rw [v1]
  refine pw_cV5 (d1 := d - 1) (a1 := 2) (a2 := al) dL_law_858 mtX11_best ivX11_best mlL_101 (Nat.le_of_ble_eq_true rfl) (Nat.le_of_ble_eq_true rfl) (by omega) (by omega) (hS.at rfl rfl rfl) rfl rfl (PW.fr (d := 100) (by omega) (q_best hJ (xs (i + 1)) (xs (i + 2)) (xs (i + 3)) (xs (i + 4)) (xs (i + 5)))) ?_
  rintro r_ τ1 ⟨x, hr_, hf1, hm⟩; subst r_
  obtain ⟨i2, l2, v2⟩ := scr_of (hf.tr hf1)
  have i43 : pm_is τ1 43 12 := ⟨by decide, Nat.lt_of_lt_of_le (show 43 < qN σ by omega) hf1.1.1, (hf1.1.2 43 (by omega)).trans (hS.at (a := 43) rfl rfl rfl).2.2⟩
  refine pw_aload_n dL_law_861 rfl ?_
  refine pw_aload_n dL_law_862 rfl ?_
  refine pw_iload_n dL_law_863 rfl ?_
  refine pw_iconst (v := 1) dL_law_864 (by decide) ?_
  refine pw_iadd dL_law_865 ?_
  refine pw_iald dL_law_866 i2 (nI_add i 1) (by rw [l2]; omega) (by omega) ?_
  rw [v2]
  refine pw_aload_n dL_law_867 rfl ?_
  refine pw_iload_n dL_law_868 rfl ?_
  refine pw_iconst (v := 2) dL_law_869 (by decide) ?_
  refine pw_iadd dL_law_870 ?_
  refine pw_iald dL_law_871 i2 (nI_add i 2) (by rw [l2]; omega) (by omega) ?_
  rw [v2]
  refine pw_aload_n dL_law_872 rfl ?_
  refine pw_iload_n dL_law_873 rfl ?_
  refine pw_iconst (v := 3) dL_law_874 (by decide) ?_
  refine pw_iadd dL_law_875 ?_
  refine pw_iald dL_law_876 i2 (nI_add i 3) (by rw [l2]; omega) (by omega) ?_
  rw [v2]
  refine pw_aload_n dL_law_877 rfl ?_
  refine pw_iload_n dL_law_878 rfl ?_
  refine pw_iconst (v := 4) dL_law_879 (by decide) ?_
  refine pw_iadd dL_law_880 ?_
  refine pw_iald dL_law_881 i2 (nI_add i 4) (by rw [l2]; omega) (by omega) ?_
  rw [v2]
  refine pw_aload_n dL_law_882 rfl ?_
  refine pw_iload_n dL_law_883 rfl ?_
  refine pw_iconst (v := 5) dL_law_884 (by decide) ?_
  refine pw_iadd dL_law_885 ?_
  refine pw_iald dL_law_886 i2 (nI_add i 5) (by rw [l2]; omega) (by omega) ?_
  rw [v2]
  refine pw_cV5 (d1 := d - 1) (a1 := 0) (a2 := al) dL_law_887 mtX12_best ivX12_best mlL_104 (Nat.le_of_ble_eq_true rfl) (Nat.le_of_ble_eq_true rfl) (by omega) (by omega) i43 rfl rfl (PW.fr (d := 100) (by omega) hm) ?_
  rintro r_ τ2 ⟨hr_, hJ2⟩; subst r_
  refine pw_icmp_eq (tgt := 895) dL_law_890 (by decide) (fun h890 => ?_) (fun h890 => ?_)
  · exact kk τ2 hJ2
  · exact absurd rfl h890
