/-! ===== the law: its thirty cases ===== -/
theorem lg_rr (r : Int64) : lg_cmp r r = 0 := by
  unfold lg_cmp
  simp
theorem lw_c0 {Γ : tn_G} {ks : List (Nat × Nat)} {ρ : Nat → Nat → Nat} {σ : Nat → Nat → Int32} {b L : Nat} {xs : Nat → Int32} {i : Int32} {ca sl : Nat} (hG : tn_Gd ks ρ) (hL : ro_L σ) (hΓ : tn_is Γ m_L_law) (hX : tn_sc Γ b L xs) (hv : ∀ (k : Nat) (x : Int32), k ≤ 5 → x = nI k → vp_in (i + x) L) (hca : ca ≤ 500000) (hsl : sl ≤ 5000000) (h : ∀ (ca' sl' : Nat) (ks' : List (Nat × Nat)) (ρ' : Nat → Nat → Nat) (σ' : Nat → Nat → Int32), ca' ≤ ca + 1 → sl' ≤ sl + 4 → tn_Gd ks' ρ' → ro_L σ' → tn_A Γ 1090 [.ref 1, .ref 2, .ref 39, .int i] [] ca' sl' ks' ρ' σ') : tn_A Γ 168 [.ref 1, .ref 2, .ref 39, .int i] [] ca sl ks ρ σ := by
  refine tn_aload_n (pc := 168) hΓ d_L_law_168 rfl ?_
  refine tn_aload_n (pc := 169) hΓ d_L_law_169 rfl ?_
  refine tn_iload_n (pc := 170) hΓ d_L_law_170 rfl ?_
  refine tn_iconst (pc := 171) hΓ d_L_law_171 ic_1 ?_
  refine tn_iadd (pc := 172) hΓ d_L_law_172 ?_
  refine tn_sld (pc := 173) hΓ hX d_L_law_173 (hv 1 _ (by decide) rfl) ?_
  refine tn_aload_n (pc := 174) hΓ d_L_law_174 rfl ?_
  refine tn_iload_n (pc := 175) hΓ d_L_law_175 rfl ?_
  refine tn_iconst (pc := 176) hΓ d_L_law_176 ic_2 ?_
  refine tn_iadd (pc := 177) hΓ d_L_law_177 ?_
  refine tn_sld (pc := 178) hΓ hX d_L_law_178 (hv 2 _ (by decide) rfl) ?_
  refine tn_aload_n (pc := 179) hΓ d_L_law_179 rfl ?_
  refine tn_iload_n (pc := 180) hΓ d_L_law_180 rfl ?_
  refine tn_iconst (pc := 181) hΓ d_L_law_181 ic_3 ?_
  refine tn_iadd (pc := 182) hΓ d_L_law_182 ?_
  refine tn_sld (pc := 183) hΓ hX d_L_law_183 (hv 3 _ (by decide) rfl) ?_
  refine tn_aload_n (pc := 184) hΓ d_L_law_184 rfl ?_
  refine tn_iload_n (pc := 185) hΓ d_L_law_185 rfl ?_
  refine tn_iconst (pc := 186) hΓ d_L_law_186 ic_4 ?_
  refine tn_iadd (pc := 187) hΓ d_L_law_187 ?_
  refine tn_sld (pc := 188) hΓ hX d_L_law_188 (hv 4 _ (by decide) rfl) ?_
  refine tn_cv (As := [.int (xs (i + (1 : Int32)).toNatClampNeg), .int (xs (i + (2 : Int32)).toNatClampNeg), .int (xs (i + (3 : Int32)).toNatClampNeg), .int (xs (i + (4 : Int32)).toNatClampNeg)]) (st := []) (x := 2) (i := 5) (pc := 189) hΓ d_L_law_189 mv_X5_parish im_X5_parish se_X5_parish ml_7_13 ⟨⟨by decide, by decide⟩, (show ca + 1 ≤ 600000 by omega), (show sl + 4 ≤ 7302250 by omega)⟩ rfl (by decide) ⟨_, rfl⟩ (gd_k hG (c := 2) rfl) (Nat.le_of_ble_eq_true rfl) (op_parish hG hL (K := fun r1 r2 ks2 ρ2 σ2 => r1 = r2 ∧ ro_L σ2) (fun r ks2 ρ2 σ2 _ hl => ⟨rfl, hl⟩)) (fun v ks1 ρ1 σ1 h0 => ?_)
  obtain ⟨r1, rfl, hG, h1⟩ := h0
  refine tn_aload_n (pc := 192) hΓ d_L_law_192 rfl ?_
  refine tn_aload_n (pc := 193) hΓ d_L_law_193 rfl ?_
  refine tn_iload_n (pc := 194) hΓ d_L_law_194 rfl ?_
  refine tn_iconst (pc := 195) hΓ d_L_law_195 ic_1 ?_
  refine tn_iadd (pc := 196) hΓ d_L_law_196 ?_
  refine tn_sld (pc := 197) hΓ hX d_L_law_197 (hv 1 _ (by decide) rfl) ?_
  refine tn_aload_n (pc := 198) hΓ d_L_law_198 rfl ?_
  refine tn_iload_n (pc := 199) hΓ d_L_law_199 rfl ?_
  refine tn_iconst (pc := 200) hΓ d_L_law_200 ic_2 ?_
  refine tn_iadd (pc := 201) hΓ d_L_law_201 ?_
  refine tn_sld (pc := 202) hΓ hX d_L_law_202 (hv 2 _ (by decide) rfl) ?_
  refine tn_aload_n (pc := 203) hΓ d_L_law_203 rfl ?_
  refine tn_iload_n (pc := 204) hΓ d_L_law_204 rfl ?_
  refine tn_iconst (pc := 205) hΓ d_L_law_205 ic_3 ?_
  refine tn_iadd (pc := 206) hΓ d_L_law_206 ?_
  refine tn_sld (pc := 207) hΓ hX d_L_law_207 (hv 3 _ (by decide) rfl) ?_
  refine tn_aload_n (pc := 208) hΓ d_L_law_208 rfl ?_
  refine tn_iload_n (pc := 209) hΓ d_L_law_209 rfl ?_
  refine tn_iconst (pc := 210) hΓ d_L_law_210 ic_4 ?_
  refine tn_iadd (pc := 211) hΓ d_L_law_211 ?_
  refine tn_sld (pc := 212) hΓ hX d_L_law_212 (hv 4 _ (by decide) rfl) ?_
  refine tn_cvI (As := [.int (xs (i + (1 : Int32)).toNatClampNeg), .int (xs (i + (2 : Int32)).toNatClampNeg), .int (xs (i + (3 : Int32)).toNatClampNeg), .int (xs (i + (4 : Int32)).toNatClampNeg)]) (st := [.int r1]) (x := 39) (i := 6) (pc := 213) hΓ d_L_law_213 mv_X6_parish im_X6_parish se_X6_parish ml_7_17 ⟨⟨by decide, by decide⟩, (show ca + 1 + 0 ≤ 600000 by omega), (show sl + 4 + 0 ≤ 7302250 by omega)⟩ rfl rfl rfl (by decide) ⟨_, rfl⟩ (gd_k hG (c := 39) rfl) (Nat.le_of_ble_eq_true rfl) rfl h1 (fun r2 σ2 h2 => ?_)
  obtain ⟨rfl, hl⟩ := h2
  exact tn_icmp_eq (tgt := 1090) (pc := 216) hΓ d_L_law_216 (by decide) (fun _ => h _ _ _ _ _ (by omega) (by omega) hG hl) (fun hq => absurd rfl hq)
theorem lw_c1 {Γ : tn_G} {ks : List (Nat × Nat)} {ρ : Nat → Nat → Nat} {σ : Nat → Nat → Int32} {b L : Nat} {xs : Nat → Int32} {i : Int32} {ca sl : Nat} (hG : tn_Gd ks ρ) (hL : ro_L σ) (hΓ : tn_is Γ m_L_law) (hX : tn_sc Γ b L xs) (hv : ∀ (k : Nat) (x : Int32), k ≤ 5 → x = nI k → vp_in (i + x) L) (hca : ca ≤ 500000) (hsl : sl ≤ 5000000) (h : ∀ (ca' sl' : Nat) (ks' : List (Nat × Nat)) (ρ' : Nat → Nat → Nat) (σ' : Nat → Nat → Int32), ca' ≤ ca + 1 → sl' ≤ sl + 4 → tn_Gd ks' ρ' → ro_L σ' → tn_A Γ 1090 [.ref 1, .ref 2, .ref 39, .int i] [] ca' sl' ks' ρ' σ') : tn_A Γ 221 [.ref 1, .ref 2, .ref 39, .int i] [] ca sl ks ρ σ := by
  refine tn_aload_n (pc := 221) hΓ d_L_law_221 rfl ?_
  refine tn_aload_n (pc := 222) hΓ d_L_law_222 rfl ?_
  refine tn_iload_n (pc := 223) hΓ d_L_law_223 rfl ?_
  refine tn_iconst (pc := 224) hΓ d_L_law_224 ic_1 ?_
  refine tn_iadd (pc := 225) hΓ d_L_law_225 ?_
  refine tn_sld (pc := 226) hΓ hX d_L_law_226 (hv 1 _ (by decide) rfl) ?_
  refine tn_aload_n (pc := 227) hΓ d_L_law_227 rfl ?_
  refine tn_iload_n (pc := 228) hΓ d_L_law_228 rfl ?_
  refine tn_iconst (pc := 229) hΓ d_L_law_229 ic_2 ?_
  refine tn_iadd (pc := 230) hΓ d_L_law_230 ?_
  refine tn_sld (pc := 231) hΓ hX d_L_law_231 (hv 2 _ (by decide) rfl) ?_
  refine tn_cvI (As := [.int (xs (i + (1 : Int32)).toNatClampNeg), .int (xs (i + (2 : Int32)).toNatClampNeg)]) (st := []) (x := 2) (i := 5) (pc := 232) hΓ d_L_law_232 mv_X5_ofHouse im_X5_ofHouse se_X5_ofHouse ml_7_18 ⟨⟨by decide, by decide⟩, (show ca + 0 ≤ 600000 by omega), (show sl + 0 ≤ 7302250 by omega)⟩ rfl rfl rfl (by decide) ⟨_, rfl⟩ (gd_k hG (c := 2) rfl) (Nat.le_of_ble_eq_true rfl) rfl (op_ofHouse hG hL (K := fun r1 r2 σ2 => r1 = r2 ∧ ro_L σ2) (fun r σ2 hl => ⟨rfl, hl⟩)) (fun r1 σ1 h1 => ?_)
  refine tn_aload_n (pc := 235) hΓ d_L_law_235 rfl ?_
  refine tn_aload_n (pc := 236) hΓ d_L_law_236 rfl ?_
  refine tn_iload_n (pc := 237) hΓ d_L_law_237 rfl ?_
  refine tn_iconst (pc := 238) hΓ d_L_law_238 ic_1 ?_
  refine tn_iadd (pc := 239) hΓ d_L_law_239 ?_
  refine tn_sld (pc := 240) hΓ hX d_L_law_240 (hv 1 _ (by decide) rfl) ?_
  refine tn_aload_n (pc := 241) hΓ d_L_law_241 rfl ?_
  refine tn_iload_n (pc := 242) hΓ d_L_law_242 rfl ?_
  refine tn_iconst (pc := 243) hΓ d_L_law_243 ic_2 ?_
  refine tn_iadd (pc := 244) hΓ d_L_law_244 ?_
  refine tn_sld (pc := 245) hΓ hX d_L_law_245 (hv 2 _ (by decide) rfl) ?_
  refine tn_cvI (As := [.int (xs (i + (1 : Int32)).toNatClampNeg), .int (xs (i + (2 : Int32)).toNatClampNeg)]) (st := [.int r1]) (x := 39) (i := 6) (pc := 246) hΓ d_L_law_246 mv_X6_ofHouse im_X6_ofHouse se_X6_ofHouse ml_7_22 ⟨⟨by decide, by decide⟩, (show ca + 0 ≤ 600000 by omega), (show sl + 0 ≤ 7302250 by omega)⟩ rfl rfl rfl (by decide) ⟨_, rfl⟩ (gd_k hG (c := 39) rfl) (Nat.le_of_ble_eq_true rfl) rfl h1 (fun r2 σ2 h2 => ?_)
  obtain ⟨rfl, hl⟩ := h2
  exact tn_icmp_eq (tgt := 1090) (pc := 249) hΓ d_L_law_249 (by decide) (fun _ => h _ _ _ _ _ (by omega) (by omega) hG hl) (fun hq => absurd rfl hq)
theorem lw_c2 {Γ : tn_G} {ks : List (Nat × Nat)} {ρ : Nat → Nat → Nat} {σ : Nat → Nat → Int32} {b L : Nat} {xs : Nat → Int32} {i : Int32} {ca sl : Nat} (hG : tn_Gd ks ρ) (hL : ro_L σ) (hΓ : tn_is Γ m_L_law) (hX : tn_sc Γ b L xs) (hv : ∀ (k : Nat) (x : Int32), k ≤ 5 → x = nI k → vp_in (i + x) L) (hca : ca ≤ 500000) (hsl : sl ≤ 5000000) (h : ∀ (ca' sl' : Nat) (ks' : List (Nat × Nat)) (ρ' : Nat → Nat → Nat) (σ' : Nat → Nat → Int32), ca' ≤ ca + 1 → sl' ≤ sl + 4 → tn_Gd ks' ρ' → ro_L σ' → tn_A Γ 1090 [.ref 1, .ref 2, .ref 39, .int i] [] ca' sl' ks' ρ' σ') : tn_A Γ 254 [.ref 1, .ref 2, .ref 39, .int i] [] ca sl ks ρ σ := by
  refine tn_aload_n (pc := 254) hΓ d_L_law_254 rfl ?_
  refine tn_aload_n (pc := 255) hΓ d_L_law_255 rfl ?_
  refine tn_iload_n (pc := 256) hΓ d_L_law_256 rfl ?_
  refine tn_iconst (pc := 257) hΓ d_L_law_257 ic_1 ?_
  refine tn_iadd (pc := 258) hΓ d_L_law_258 ?_
  refine tn_sld (pc := 259) hΓ hX d_L_law_259 (hv 1 _ (by decide) rfl) ?_
  refine tn_aload_n (pc := 260) hΓ d_L_law_260 rfl ?_
  refine tn_iload_n (pc := 261) hΓ d_L_law_261 rfl ?_
  refine tn_iconst (pc := 262) hΓ d_L_law_262 ic_2 ?_
  refine tn_iadd (pc := 263) hΓ d_L_law_263 ?_
  refine tn_sld (pc := 264) hΓ hX d_L_law_264 (hv 2 _ (by decide) rfl) ?_
  refine tn_cvI (As := [.int (xs (i + (1 : Int32)).toNatClampNeg), .int (xs (i + (2 : Int32)).toNatClampNeg)]) (st := []) (x := 2) (i := 5) (pc := 265) hΓ d_L_law_265 mv_X5_ofStone im_X5_ofStone se_X5_ofStone ml_7_23 ⟨⟨by decide, by decide⟩, (show ca + 0 ≤ 600000 by omega), (show sl + 0 ≤ 7302250 by omega)⟩ rfl rfl rfl (by decide) ⟨_, rfl⟩ (gd_k hG (c := 2) rfl) (Nat.le_of_ble_eq_true rfl) rfl (op_ofStone hG hL (K := fun r1 r2 σ2 => r1 = r2 ∧ ro_L σ2) (fun r σ2 hl => ⟨rfl, hl⟩)) (fun r1 σ1 h1 => ?_)
  refine tn_aload_n (pc := 268) hΓ d_L_law_268 rfl ?_
  refine tn_aload_n (pc := 269) hΓ d_L_law_269 rfl ?_
  refine tn_iload_n (pc := 270) hΓ d_L_law_270 rfl ?_
  refine tn_iconst (pc := 271) hΓ d_L_law_271 ic_1 ?_
  refine tn_iadd (pc := 272) hΓ d_L_law_272 ?_
  refine tn_sld (pc := 273) hΓ hX d_L_law_273 (hv 1 _ (by decide) rfl) ?_
  refine tn_aload_n (pc := 274) hΓ d_L_law_274 rfl ?_
  refine tn_iload_n (pc := 275) hΓ d_L_law_275 rfl ?_
  refine tn_iconst (pc := 276) hΓ d_L_law_276 ic_2 ?_
  refine tn_iadd (pc := 277) hΓ d_L_law_277 ?_
  refine tn_sld (pc := 278) hΓ hX d_L_law_278 (hv 2 _ (by decide) rfl) ?_
  refine tn_cvI (As := [.int (xs (i + (1 : Int32)).toNatClampNeg), .int (xs (i + (2 : Int32)).toNatClampNeg)]) (st := [.int r1]) (x := 39) (i := 6) (pc := 279) hΓ d_L_law_279 mv_X6_ofStone im_X6_ofStone se_X6_ofStone ml_7_26 ⟨⟨by decide, by decide⟩, (show ca + 0 ≤ 600000 by omega), (show sl + 0 ≤ 7302250 by omega)⟩ rfl rfl rfl (by decide) ⟨_, rfl⟩ (gd_k hG (c := 39) rfl) (Nat.le_of_ble_eq_true rfl) rfl h1 (fun r2 σ2 h2 => ?_)
  obtain ⟨rfl, hl⟩ := h2
  exact tn_icmp_eq (tgt := 1090) (pc := 282) hΓ d_L_law_282 (by decide) (fun _ => h _ _ _ _ _ (by omega) (by omega) hG hl) (fun hq => absurd rfl hq)
theorem lw_c3 {Γ : tn_G} {ks : List (Nat × Nat)} {ρ : Nat → Nat → Nat} {σ : Nat → Nat → Int32} {b L : Nat} {xs : Nat → Int32} {i : Int32} {ca sl : Nat} (hG : tn_Gd ks ρ) (hL : ro_L σ) (hΓ : tn_is Γ m_L_law) (hX : tn_sc Γ b L xs) (hv : ∀ (k : Nat) (x : Int32), k ≤ 5 → x = nI k → vp_in (i + x) L) (hca : ca ≤ 500000) (hsl : sl ≤ 5000000) (h : ∀ (ca' sl' : Nat) (ks' : List (Nat × Nat)) (ρ' : Nat → Nat → Nat) (σ' : Nat → Nat → Int32), ca' ≤ ca + 1 → sl' ≤ sl + 4 → tn_Gd ks' ρ' → ro_L σ' → tn_A Γ 1090 [.ref 1, .ref 2, .ref 39, .int i] [] ca' sl' ks' ρ' σ') : tn_A Γ 287 [.ref 1, .ref 2, .ref 39, .int i] [] ca sl ks ρ σ := by
  refine tn_aload_n (pc := 287) hΓ d_L_law_287 rfl ?_
  refine tn_aload_n (pc := 288) hΓ d_L_law_288 rfl ?_
  refine tn_iload_n (pc := 289) hΓ d_L_law_289 rfl ?_
  refine tn_iconst (pc := 290) hΓ d_L_law_290 ic_1 ?_
  refine tn_iadd (pc := 291) hΓ d_L_law_291 ?_
  refine tn_sld (pc := 292) hΓ hX d_L_law_292 (hv 1 _ (by decide) rfl) ?_
  refine tn_aload_n (pc := 293) hΓ d_L_law_293 rfl ?_
  refine tn_iload_n (pc := 294) hΓ d_L_law_294 rfl ?_
  refine tn_iconst (pc := 295) hΓ d_L_law_295 ic_2 ?_
  refine tn_iadd (pc := 296) hΓ d_L_law_296 ?_
  refine tn_sld (pc := 297) hΓ hX d_L_law_297 (hv 2 _ (by decide) rfl) ?_
  refine tn_cvI (As := [.int (xs (i + (1 : Int32)).toNatClampNeg), .int (xs (i + (2 : Int32)).toNatClampNeg)]) (st := []) (x := 2) (i := 5) (pc := 298) hΓ d_L_law_298 mv_X5_sleep im_X5_sleep se_X5_sleep ml_7_27 ⟨⟨by decide, by decide⟩, (show ca + 0 ≤ 600000 by omega), (show sl + 0 ≤ 7302250 by omega)⟩ rfl rfl rfl (by decide) ⟨_, rfl⟩ (gd_k hG (c := 2) rfl) (Nat.le_of_ble_eq_true rfl) rfl (op_sleep hG hL (K := fun r1 r2 σ2 => r1 = r2 ∧ ro_L σ2) (fun r σ2 hl => ⟨rfl, hl⟩)) (fun r1 σ1 h1 => ?_)
  refine tn_aload_n (pc := 301) hΓ d_L_law_301 rfl ?_
  refine tn_aload_n (pc := 302) hΓ d_L_law_302 rfl ?_
  refine tn_iload_n (pc := 303) hΓ d_L_law_303 rfl ?_
  refine tn_iconst (pc := 304) hΓ d_L_law_304 ic_1 ?_
  refine tn_iadd (pc := 305) hΓ d_L_law_305 ?_
  refine tn_sld (pc := 306) hΓ hX d_L_law_306 (hv 1 _ (by decide) rfl) ?_
  refine tn_aload_n (pc := 307) hΓ d_L_law_307 rfl ?_
  refine tn_iload_n (pc := 308) hΓ d_L_law_308 rfl ?_
  refine tn_iconst (pc := 309) hΓ d_L_law_309 ic_2 ?_
  refine tn_iadd (pc := 310) hΓ d_L_law_310 ?_
  refine tn_sld (pc := 311) hΓ hX d_L_law_311 (hv 2 _ (by decide) rfl) ?_
  refine tn_cvI (As := [.int (xs (i + (1 : Int32)).toNatClampNeg), .int (xs (i + (2 : Int32)).toNatClampNeg)]) (st := [.int r1]) (x := 39) (i := 6) (pc := 312) hΓ d_L_law_312 mv_X6_sleep im_X6_sleep se_X6_sleep ml_7_30 ⟨⟨by decide, by decide⟩, (show ca + 0 ≤ 600000 by omega), (show sl + 0 ≤ 7302250 by omega)⟩ rfl rfl rfl (by decide) ⟨_, rfl⟩ (gd_k hG (c := 39) rfl) (Nat.le_of_ble_eq_true rfl) rfl h1 (fun r2 σ2 h2 => ?_)
  obtain ⟨rfl, hl⟩ := h2
  exact tn_icmp_eq (tgt := 1090) (pc := 315) hΓ d_L_law_315 (by decide) (fun _ => h _ _ _ _ _ (by omega) (by omega) hG hl) (fun hq => absurd rfl hq)
theorem lw_c4 {Γ : tn_G} {ks : List (Nat × Nat)} {ρ : Nat → Nat → Nat} {σ : Nat → Nat → Int32} {b L : Nat} {xs : Nat → Int32} {i : Int32} {ca sl : Nat} (hG : tn_Gd ks ρ) (hL : ro_L σ) (hΓ : tn_is Γ m_L_law) (hX : tn_sc Γ b L xs) (hv : ∀ (k : Nat) (x : Int32), k ≤ 5 → x = nI k → vp_in (i + x) L) (hca : ca ≤ 500000) (hsl : sl ≤ 5000000) (h : ∀ (ca' sl' : Nat) (ks' : List (Nat × Nat)) (ρ' : Nat → Nat → Nat) (σ' : Nat → Nat → Int32), ca' ≤ ca + 1 → sl' ≤ sl + 4 → tn_Gd ks' ρ' → ro_L σ' → tn_A Γ 1090 [.ref 1, .ref 2, .ref 39, .int i] [] ca' sl' ks' ρ' σ') : tn_A Γ 320 [.ref 1, .ref 2, .ref 39, .int i] [] ca sl ks ρ σ := by
  refine tn_aload_n (pc := 320) hΓ d_L_law_320 rfl ?_
  refine tn_aload_n (pc := 321) hΓ d_L_law_321 rfl ?_
  refine tn_iload_n (pc := 322) hΓ d_L_law_322 rfl ?_
  refine tn_iconst (pc := 323) hΓ d_L_law_323 ic_1 ?_
  refine tn_iadd (pc := 324) hΓ d_L_law_324 ?_
  refine tn_sld (pc := 325) hΓ hX d_L_law_325 (hv 1 _ (by decide) rfl) ?_
  refine tn_cvI (As := [.int (xs (i + (1 : Int32)).toNatClampNeg)]) (st := []) (x := 2) (i := 5) (pc := 326) hΓ d_L_law_326 mv_X5_own im_X5_own se_X5_own ml_7_31 ⟨⟨by decide, by decide⟩, (show ca + 0 ≤ 600000 by omega), (show sl + 0 ≤ 7302250 by omega)⟩ rfl rfl rfl (by decide) ⟨_, rfl⟩ (gd_k hG (c := 2) rfl) (Nat.le_of_ble_eq_true rfl) rfl (op_own hG hL (K := fun r1 r2 σ2 => r1 = r2 ∧ ro_L σ2) (fun r σ2 hl => ⟨rfl, hl⟩)) (fun r1 σ1 h1 => ?_)
  refine tn_aload_n (pc := 329) hΓ d_L_law_329 rfl ?_
  refine tn_aload_n (pc := 330) hΓ d_L_law_330 rfl ?_
  refine tn_iload_n (pc := 331) hΓ d_L_law_331 rfl ?_
  refine tn_iconst (pc := 332) hΓ d_L_law_332 ic_1 ?_
  refine tn_iadd (pc := 333) hΓ d_L_law_333 ?_
  refine tn_sld (pc := 334) hΓ hX d_L_law_334 (hv 1 _ (by decide) rfl) ?_
  refine tn_cvI (As := [.int (xs (i + (1 : Int32)).toNatClampNeg)]) (st := [.int r1]) (x := 39) (i := 6) (pc := 335) hΓ d_L_law_335 mv_X6_own im_X6_own se_X6_own ml_7_35 ⟨⟨by decide, by decide⟩, (show ca + 0 ≤ 600000 by omega), (show sl + 0 ≤ 7302250 by omega)⟩ rfl rfl rfl (by decide) ⟨_, rfl⟩ (gd_k hG (c := 39) rfl) (Nat.le_of_ble_eq_true rfl) rfl h1 (fun r2 σ2 h2 => ?_)
  obtain ⟨rfl, hl⟩ := h2
  exact tn_icmp_eq (tgt := 1090) (pc := 338) hΓ d_L_law_338 (by decide) (fun _ => h _ _ _ _ _ (by omega) (by omega) hG hl) (fun hq => absurd rfl hq)
theorem lw_c5 {Γ : tn_G} {ks : List (Nat × Nat)} {ρ : Nat → Nat → Nat} {σ : Nat → Nat → Int32} {b L : Nat} {xs : Nat → Int32} {i : Int32} {ca sl : Nat} (hG : tn_Gd ks ρ) (hL : ro_L σ) (hΓ : tn_is Γ m_L_law) (hX : tn_sc Γ b L xs) (hv : ∀ (k : Nat) (x : Int32), k ≤ 5 → x = nI k → vp_in (i + x) L) (hca : ca ≤ 500000) (hsl : sl ≤ 5000000) (h : ∀ (ca' sl' : Nat) (ks' : List (Nat × Nat)) (ρ' : Nat → Nat → Nat) (σ' : Nat → Nat → Int32), ca' ≤ ca + 1 → sl' ≤ sl + 4 → tn_Gd ks' ρ' → ro_L σ' → tn_A Γ 1090 [.ref 1, .ref 2, .ref 39, .int i] [] ca' sl' ks' ρ' σ') : tn_A Γ 343 [.ref 1, .ref 2, .ref 39, .int i] [] ca sl ks ρ σ := by
  refine tn_aload_n (pc := 343) hΓ d_L_law_343 rfl ?_
  refine tn_aload_n (pc := 344) hΓ d_L_law_344 rfl ?_
  refine tn_iload_n (pc := 345) hΓ d_L_law_345 rfl ?_
  refine tn_iconst (pc := 346) hΓ d_L_law_346 ic_1 ?_
  refine tn_iadd (pc := 347) hΓ d_L_law_347 ?_
  refine tn_sld (pc := 348) hΓ hX d_L_law_348 (hv 1 _ (by decide) rfl) ?_
  refine tn_cvI (As := [.int (xs (i + (1 : Int32)).toNatClampNeg)]) (st := []) (x := 2) (i := 5) (pc := 349) hΓ d_L_law_349 mv_X5_lay im_X5_lay se_X5_lay ml_7_36 ⟨⟨by decide, by decide⟩, (show ca + 0 ≤ 600000 by omega), (show sl + 0 ≤ 7302250 by omega)⟩ rfl rfl rfl (by decide) ⟨_, rfl⟩ (gd_k hG (c := 2) rfl) (Nat.le_of_ble_eq_true rfl) rfl (op_lay hG hL (K := fun r1 r2 σ2 => r1 = r2 ∧ ro_L σ2) (fun r σ2 hl => ⟨rfl, hl⟩)) (fun r1 σ1 h1 => ?_)
  refine tn_aload_n (pc := 352) hΓ d_L_law_352 rfl ?_
  refine tn_aload_n (pc := 353) hΓ d_L_law_353 rfl ?_
  refine tn_iload_n (pc := 354) hΓ d_L_law_354 rfl ?_
  refine tn_iconst (pc := 355) hΓ d_L_law_355 ic_1 ?_
  refine tn_iadd (pc := 356) hΓ d_L_law_356 ?_
  refine tn_sld (pc := 357) hΓ hX d_L_law_357 (hv 1 _ (by decide) rfl) ?_
  refine tn_cvI (As := [.int (xs (i + (1 : Int32)).toNatClampNeg)]) (st := [.int r1]) (x := 39) (i := 6) (pc := 358) hΓ d_L_law_358 mv_X6_lay im_X6_lay se_X6_lay ml_7_39 ⟨⟨by decide, by decide⟩, (show ca + 0 ≤ 600000 by omega), (show sl + 0 ≤ 7302250 by omega)⟩ rfl rfl rfl (by decide) ⟨_, rfl⟩ (gd_k hG (c := 39) rfl) (Nat.le_of_ble_eq_true rfl) rfl h1 (fun r2 σ2 h2 => ?_)
  obtain ⟨rfl, hl⟩ := h2
  exact tn_icmp_eq (tgt := 1090) (pc := 361) hΓ d_L_law_361 (by decide) (fun _ => h _ _ _ _ _ (by omega) (by omega) hG hl) (fun hq => absurd rfl hq)
theorem lw_c6 {Γ : tn_G} {ks : List (Nat × Nat)} {ρ : Nat → Nat → Nat} {σ : Nat → Nat → Int32} {b L : Nat} {xs : Nat → Int32} {i : Int32} {ca sl : Nat} (hG : tn_Gd ks ρ) (hL : ro_L σ) (hΓ : tn_is Γ m_L_law) (hX : tn_sc Γ b L xs) (hv : ∀ (k : Nat) (x : Int32), k ≤ 5 → x = nI k → vp_in (i + x) L) (hca : ca ≤ 500000) (hsl : sl ≤ 5000000) (h : ∀ (ca' sl' : Nat) (ks' : List (Nat × Nat)) (ρ' : Nat → Nat → Nat) (σ' : Nat → Nat → Int32), ca' ≤ ca + 1 → sl' ≤ sl + 4 → tn_Gd ks' ρ' → ro_L σ' → tn_A Γ 1090 [.ref 1, .ref 2, .ref 39, .int i] [] ca' sl' ks' ρ' σ') : tn_A Γ 366 [.ref 1, .ref 2, .ref 39, .int i] [] ca sl ks ρ σ := by
  refine tn_aload_n (pc := 366) hΓ d_L_law_366 rfl ?_
  refine tn_aload_n (pc := 367) hΓ d_L_law_367 rfl ?_
  refine tn_iload_n (pc := 368) hΓ d_L_law_368 rfl ?_
  refine tn_iconst (pc := 369) hΓ d_L_law_369 ic_1 ?_
  refine tn_iadd (pc := 370) hΓ d_L_law_370 ?_
  refine tn_sld (pc := 371) hΓ hX d_L_law_371 (hv 1 _ (by decide) rfl) ?_
  refine tn_cvI (As := [.int (xs (i + (1 : Int32)).toNatClampNeg)]) (st := []) (x := 2) (i := 5) (pc := 372) hΓ d_L_law_372 mv_X5_night im_X5_night se_X5_night ml_7_40 ⟨⟨by decide, by decide⟩, (show ca + 0 ≤ 600000 by omega), (show sl + 0 ≤ 7302250 by omega)⟩ rfl rfl rfl (by decide) ⟨_, rfl⟩ (gd_k hG (c := 2) rfl) (Nat.le_of_ble_eq_true rfl) rfl (op_night hG hL (K := fun r1 r2 σ2 => r1 = r2 ∧ ro_L σ2) (fun r σ2 hl => ⟨rfl, hl⟩)) (fun r1 σ1 h1 => ?_)
  refine tn_aload_n (pc := 375) hΓ d_L_law_375 rfl ?_
  refine tn_aload_n (pc := 376) hΓ d_L_law_376 rfl ?_
  refine tn_iload_n (pc := 377) hΓ d_L_law_377 rfl ?_
  refine tn_iconst (pc := 378) hΓ d_L_law_378 ic_1 ?_
  refine tn_iadd (pc := 379) hΓ d_L_law_379 ?_
  refine tn_sld (pc := 380) hΓ hX d_L_law_380 (hv 1 _ (by decide) rfl) ?_
  refine tn_cvI (As := [.int (xs (i + (1 : Int32)).toNatClampNeg)]) (st := [.int r1]) (x := 39) (i := 6) (pc := 381) hΓ d_L_law_381 mv_X6_night im_X6_night se_X6_night ml_7_43 ⟨⟨by decide, by decide⟩, (show ca + 0 ≤ 600000 by omega), (show sl + 0 ≤ 7302250 by omega)⟩ rfl rfl rfl (by decide) ⟨_, rfl⟩ (gd_k hG (c := 39) rfl) (Nat.le_of_ble_eq_true rfl) rfl h1 (fun r2 σ2 h2 => ?_)
  obtain ⟨rfl, hl⟩ := h2
  exact tn_icmp_eq (tgt := 1090) (pc := 384) hΓ d_L_law_384 (by decide) (fun _ => h _ _ _ _ _ (by omega) (by omega) hG hl) (fun hq => absurd rfl hq)
theorem lw_c7 {Γ : tn_G} {ks : List (Nat × Nat)} {ρ : Nat → Nat → Nat} {σ : Nat → Nat → Int32} {b L : Nat} {xs : Nat → Int32} {i : Int32} {ca sl : Nat} (hG : tn_Gd ks ρ) (hL : ro_L σ) (hΓ : tn_is Γ m_L_law) (hX : tn_sc Γ b L xs) (hv : ∀ (k : Nat) (x : Int32), k ≤ 5 → x = nI k → vp_in (i + x) L) (hca : ca ≤ 500000) (hsl : sl ≤ 5000000) (h : ∀ (ca' sl' : Nat) (ks' : List (Nat × Nat)) (ρ' : Nat → Nat → Nat) (σ' : Nat → Nat → Int32), ca' ≤ ca + 1 → sl' ≤ sl + 4 → tn_Gd ks' ρ' → ro_L σ' → tn_A Γ 1090 [.ref 1, .ref 2, .ref 39, .int i] [] ca' sl' ks' ρ' σ') : tn_A Γ 389 [.ref 1, .ref 2, .ref 39, .int i] [] ca sl ks ρ σ := by
  refine tn_aload_n (pc := 389) hΓ d_L_law_389 rfl ?_
  refine tn_aload_n (pc := 390) hΓ d_L_law_390 rfl ?_
  refine tn_iload_n (pc := 391) hΓ d_L_law_391 rfl ?_
  refine tn_iconst (pc := 392) hΓ d_L_law_392 ic_1 ?_
  refine tn_iadd (pc := 393) hΓ d_L_law_393 ?_
  refine tn_sld (pc := 394) hΓ hX d_L_law_394 (hv 1 _ (by decide) rfl) ?_
  refine tn_aload_n (pc := 395) hΓ d_L_law_395 rfl ?_
  refine tn_iload_n (pc := 396) hΓ d_L_law_396 rfl ?_
  refine tn_iconst (pc := 397) hΓ d_L_law_397 ic_2 ?_
  refine tn_iadd (pc := 398) hΓ d_L_law_398 ?_
  refine tn_sld (pc := 399) hΓ hX d_L_law_399 (hv 2 _ (by decide) rfl) ?_
  refine tn_aload_n (pc := 400) hΓ d_L_law_400 rfl ?_
  refine tn_iload_n (pc := 401) hΓ d_L_law_401 rfl ?_
  refine tn_iconst (pc := 402) hΓ d_L_law_402 ic_3 ?_
  refine tn_iadd (pc := 403) hΓ d_L_law_403 ?_
  refine tn_sld (pc := 404) hΓ hX d_L_law_404 (hv 3 _ (by decide) rfl) ?_
  refine tn_aload_n (pc := 405) hΓ d_L_law_405 rfl ?_
  refine tn_iload_n (pc := 406) hΓ d_L_law_406 rfl ?_
  refine tn_iconst (pc := 407) hΓ d_L_law_407 ic_4 ?_
  refine tn_iadd (pc := 408) hΓ d_L_law_408 ?_
  refine tn_sld (pc := 409) hΓ hX d_L_law_409 (hv 4 _ (by decide) rfl) ?_
  refine tn_aload_n (pc := 410) hΓ d_L_law_410 rfl ?_
  refine tn_iload_n (pc := 411) hΓ d_L_law_411 rfl ?_
  refine tn_iconst (pc := 412) hΓ d_L_law_412 ic_5 ?_
  refine tn_iadd (pc := 413) hΓ d_L_law_413 ?_
  refine tn_sld (pc := 414) hΓ hX d_L_law_414 (hv 5 _ (by decide) rfl) ?_
  refine tn_cvI (As := [.int (xs (i + (1 : Int32)).toNatClampNeg), .int (xs (i + (2 : Int32)).toNatClampNeg), .int (xs (i + (3 : Int32)).toNatClampNeg), .int (xs (i + (4 : Int32)).toNatClampNeg), .int (xs (i + (5 : Int32)).toNatClampNeg)]) (st := []) (x := 2) (i := 5) (pc := 415) hΓ d_L_law_415 mv_X5_day im_X5_day se_X5_day ml_7_44 ⟨⟨by decide, by decide⟩, (show ca + 0 ≤ 600000 by omega), (show sl + 0 ≤ 7302250 by omega)⟩ rfl rfl rfl (by decide) ⟨_, rfl⟩ (gd_k hG (c := 2) rfl) (Nat.le_of_ble_eq_true rfl) rfl (op_day hG hL (K := fun r1 r2 σ2 => r1 = r2 ∧ ro_L σ2) (fun r σ2 hl => ⟨rfl, hl⟩)) (fun r1 σ1 h1 => ?_)
  refine tn_aload_n (pc := 418) hΓ d_L_law_418 rfl ?_
  refine tn_aload_n (pc := 419) hΓ d_L_law_419 rfl ?_
  refine tn_iload_n (pc := 420) hΓ d_L_law_420 rfl ?_
  refine tn_iconst (pc := 421) hΓ d_L_law_421 ic_1 ?_
  refine tn_iadd (pc := 422) hΓ d_L_law_422 ?_
  refine tn_sld (pc := 423) hΓ hX d_L_law_423 (hv 1 _ (by decide) rfl) ?_
  refine tn_aload_n (pc := 424) hΓ d_L_law_424 rfl ?_
  refine tn_iload_n (pc := 425) hΓ d_L_law_425 rfl ?_
  refine tn_iconst (pc := 426) hΓ d_L_law_426 ic_2 ?_
  refine tn_iadd (pc := 427) hΓ d_L_law_427 ?_
  refine tn_sld (pc := 428) hΓ hX d_L_law_428 (hv 2 _ (by decide) rfl) ?_
  refine tn_aload_n (pc := 429) hΓ d_L_law_429 rfl ?_
  refine tn_iload_n (pc := 430) hΓ d_L_law_430 rfl ?_
  refine tn_iconst (pc := 431) hΓ d_L_law_431 ic_3 ?_
  refine tn_iadd (pc := 432) hΓ d_L_law_432 ?_
  refine tn_sld (pc := 433) hΓ hX d_L_law_433 (hv 3 _ (by decide) rfl) ?_
  refine tn_aload_n (pc := 434) hΓ d_L_law_434 rfl ?_
  refine tn_iload_n (pc := 435) hΓ d_L_law_435 rfl ?_
  refine tn_iconst (pc := 436) hΓ d_L_law_436 ic_4 ?_
  refine tn_iadd (pc := 437) hΓ d_L_law_437 ?_
  refine tn_sld (pc := 438) hΓ hX d_L_law_438 (hv 4 _ (by decide) rfl) ?_
  refine tn_aload_n (pc := 439) hΓ d_L_law_439 rfl ?_
  refine tn_iload_n (pc := 440) hΓ d_L_law_440 rfl ?_
  refine tn_iconst (pc := 441) hΓ d_L_law_441 ic_5 ?_
  refine tn_iadd (pc := 442) hΓ d_L_law_442 ?_
  refine tn_sld (pc := 443) hΓ hX d_L_law_443 (hv 5 _ (by decide) rfl) ?_
  refine tn_cvI (As := [.int (xs (i + (1 : Int32)).toNatClampNeg), .int (xs (i + (2 : Int32)).toNatClampNeg), .int (xs (i + (3 : Int32)).toNatClampNeg), .int (xs (i + (4 : Int32)).toNatClampNeg), .int (xs (i + (5 : Int32)).toNatClampNeg)]) (st := [.int r1]) (x := 39) (i := 6) (pc := 444) hΓ d_L_law_444 mv_X6_day im_X6_day se_X6_day ml_7_48 ⟨⟨by decide, by decide⟩, (show ca + 0 ≤ 600000 by omega), (show sl + 0 ≤ 7302250 by omega)⟩ rfl rfl rfl (by decide) ⟨_, rfl⟩ (gd_k hG (c := 39) rfl) (Nat.le_of_ble_eq_true rfl) rfl h1 (fun r2 σ2 h2 => ?_)
  obtain ⟨rfl, hl⟩ := h2
  exact tn_icmp_eq (tgt := 1090) (pc := 447) hΓ d_L_law_447 (by decide) (fun _ => h _ _ _ _ _ (by omega) (by omega) hG hl) (fun hq => absurd rfl hq)
theorem lw_c8 {Γ : tn_G} {ks : List (Nat × Nat)} {ρ : Nat → Nat → Nat} {σ : Nat → Nat → Int32} {b L : Nat} {xs : Nat → Int32} {i : Int32} {ca sl : Nat} (hG : tn_Gd ks ρ) (hL : ro_L σ) (hΓ : tn_is Γ m_L_law) (hX : tn_sc Γ b L xs) (hv : ∀ (k : Nat) (x : Int32), k ≤ 5 → x = nI k → vp_in (i + x) L) (hca : ca ≤ 500000) (hsl : sl ≤ 5000000) (h : ∀ (ca' sl' : Nat) (ks' : List (Nat × Nat)) (ρ' : Nat → Nat → Nat) (σ' : Nat → Nat → Int32), ca' ≤ ca + 1 → sl' ≤ sl + 4 → tn_Gd ks' ρ' → ro_L σ' → tn_A Γ 1090 [.ref 1, .ref 2, .ref 39, .int i] [] ca' sl' ks' ρ' σ') : tn_A Γ 452 [.ref 1, .ref 2, .ref 39, .int i] [] ca sl ks ρ σ := by
  refine tn_aload_n (pc := 452) hΓ d_L_law_452 rfl ?_
  refine tn_aload_n (pc := 453) hΓ d_L_law_453 rfl ?_
  refine tn_iload_n (pc := 454) hΓ d_L_law_454 rfl ?_
  refine tn_iconst (pc := 455) hΓ d_L_law_455 ic_1 ?_
  refine tn_iadd (pc := 456) hΓ d_L_law_456 ?_
  refine tn_sld (pc := 457) hΓ hX d_L_law_457 (hv 1 _ (by decide) rfl) ?_
  refine tn_aload_n (pc := 458) hΓ d_L_law_458 rfl ?_
  refine tn_iload_n (pc := 459) hΓ d_L_law_459 rfl ?_
  refine tn_iconst (pc := 460) hΓ d_L_law_460 ic_2 ?_
  refine tn_iadd (pc := 461) hΓ d_L_law_461 ?_
  refine tn_sld (pc := 462) hΓ hX d_L_law_462 (hv 2 _ (by decide) rfl) ?_
  refine tn_cvI (As := [.int (xs (i + (1 : Int32)).toNatClampNeg), .int (xs (i + (2 : Int32)).toNatClampNeg)]) (st := []) (x := 2) (i := 5) (pc := 463) hΓ d_L_law_463 mv_X5_behind im_X5_behind se_X5_behind ml_7_49 ⟨⟨by decide, by decide⟩, (show ca + 0 ≤ 600000 by omega), (show sl + 0 ≤ 7302250 by omega)⟩ rfl rfl rfl (by decide) ⟨_, rfl⟩ (gd_k hG (c := 2) rfl) (Nat.le_of_ble_eq_true rfl) rfl (op_behind hG hL (K := fun r1 r2 σ2 => r1 = r2 ∧ ro_L σ2) (fun r σ2 hl => ⟨rfl, hl⟩)) (fun r1 σ1 h1 => ?_)
  refine tn_aload_n (pc := 466) hΓ d_L_law_466 rfl ?_
  refine tn_aload_n (pc := 467) hΓ d_L_law_467 rfl ?_
  refine tn_iload_n (pc := 468) hΓ d_L_law_468 rfl ?_
  refine tn_iconst (pc := 469) hΓ d_L_law_469 ic_1 ?_
  refine tn_iadd (pc := 470) hΓ d_L_law_470 ?_
  refine tn_sld (pc := 471) hΓ hX d_L_law_471 (hv 1 _ (by decide) rfl) ?_
  refine tn_aload_n (pc := 472) hΓ d_L_law_472 rfl ?_
  refine tn_iload_n (pc := 473) hΓ d_L_law_473 rfl ?_
  refine tn_iconst (pc := 474) hΓ d_L_law_474 ic_2 ?_
  refine tn_iadd (pc := 475) hΓ d_L_law_475 ?_
  refine tn_sld (pc := 476) hΓ hX d_L_law_476 (hv 2 _ (by decide) rfl) ?_
  refine tn_cvI (As := [.int (xs (i + (1 : Int32)).toNatClampNeg), .int (xs (i + (2 : Int32)).toNatClampNeg)]) (st := [.int r1]) (x := 39) (i := 6) (pc := 477) hΓ d_L_law_477 mv_X6_behind im_X6_behind se_X6_behind ml_7_52 ⟨⟨by decide, by decide⟩, (show ca + 0 ≤ 600000 by omega), (show sl + 0 ≤ 7302250 by omega)⟩ rfl rfl rfl (by decide) ⟨_, rfl⟩ (gd_k hG (c := 39) rfl) (Nat.le_of_ble_eq_true rfl) rfl h1 (fun r2 σ2 h2 => ?_)
  obtain ⟨rfl, hl⟩ := h2
  exact tn_icmp_eq (tgt := 1090) (pc := 480) hΓ d_L_law_480 (by decide) (fun _ => h _ _ _ _ _ (by omega) (by omega) hG hl) (fun hq => absurd rfl hq)
theorem lw_c9 {Γ : tn_G} {ks : List (Nat × Nat)} {ρ : Nat → Nat → Nat} {σ : Nat → Nat → Int32} {b L : Nat} {xs : Nat → Int32} {i : Int32} {ca sl : Nat} (hG : tn_Gd ks ρ) (hL : ro_L σ) (hΓ : tn_is Γ m_L_law) (hX : tn_sc Γ b L xs) (hv : ∀ (k : Nat) (x : Int32), k ≤ 5 → x = nI k → vp_in (i + x) L) (hca : ca ≤ 500000) (hsl : sl ≤ 5000000) (h : ∀ (ca' sl' : Nat) (ks' : List (Nat × Nat)) (ρ' : Nat → Nat → Nat) (σ' : Nat → Nat → Int32), ca' ≤ ca + 1 → sl' ≤ sl + 4 → tn_Gd ks' ρ' → ro_L σ' → tn_A Γ 1090 [.ref 1, .ref 2, .ref 39, .int i] [] ca' sl' ks' ρ' σ') : tn_A Γ 485 [.ref 1, .ref 2, .ref 39, .int i] [] ca sl ks ρ σ := by
  refine tn_aload_n (pc := 485) hΓ d_L_law_485 rfl ?_
  refine tn_cvI (As := []) (st := []) (x := 2) (i := 5) (pc := 486) hΓ d_L_law_486 mv_X5_quiet im_X5_quiet se_X5_quiet ml_7_53 ⟨⟨by decide, by decide⟩, (show ca + 0 ≤ 600000 by omega), (show sl + 0 ≤ 7302250 by omega)⟩ rfl rfl rfl (by decide) ⟨_, rfl⟩ (gd_k hG (c := 2) rfl) (Nat.le_of_ble_eq_true rfl) rfl (op_quiet hG hL (K := fun r1 r2 σ2 => r1 = r2 ∧ ro_L σ2) (fun r σ2 hl => ⟨rfl, hl⟩)) (fun r1 σ1 h1 => ?_)
  refine tn_aload_n (pc := 489) hΓ d_L_law_489 rfl ?_
  refine tn_cvI (As := []) (st := [.int r1]) (x := 39) (i := 6) (pc := 490) hΓ d_L_law_490 mv_X6_quiet im_X6_quiet se_X6_quiet ml_7_57 ⟨⟨by decide, by decide⟩, (show ca + 0 ≤ 600000 by omega), (show sl + 0 ≤ 7302250 by omega)⟩ rfl rfl rfl (by decide) ⟨_, rfl⟩ (gd_k hG (c := 39) rfl) (Nat.le_of_ble_eq_true rfl) rfl h1 (fun r2 σ2 h2 => ?_)
  obtain ⟨rfl, hl⟩ := h2
  exact tn_icmp_eq (tgt := 1090) (pc := 493) hΓ d_L_law_493 (by decide) (fun _ => h _ _ _ _ _ (by omega) (by omega) hG hl) (fun hq => absurd rfl hq)
theorem lw_c10 {Γ : tn_G} {ks : List (Nat × Nat)} {ρ : Nat → Nat → Nat} {σ : Nat → Nat → Int32} {b L : Nat} {xs : Nat → Int32} {i : Int32} {ca sl : Nat} (hG : tn_Gd ks ρ) (hL : ro_L σ) (hΓ : tn_is Γ m_L_law) (hX : tn_sc Γ b L xs) (hv : ∀ (k : Nat) (x : Int32), k ≤ 5 → x = nI k → vp_in (i + x) L) (hca : ca ≤ 500000) (hsl : sl ≤ 5000000) (h : ∀ (ca' sl' : Nat) (ks' : List (Nat × Nat)) (ρ' : Nat → Nat → Nat) (σ' : Nat → Nat → Int32), ca' ≤ ca + 1 → sl' ≤ sl + 4 → tn_Gd ks' ρ' → ro_L σ' → tn_A Γ 1090 [.ref 1, .ref 2, .ref 39, .int i] [] ca' sl' ks' ρ' σ') : tn_A Γ 498 [.ref 1, .ref 2, .ref 39, .int i] [] ca sl ks ρ σ := by
  refine tn_aload_n (pc := 498) hΓ d_L_law_498 rfl ?_
  refine tn_aload_n (pc := 499) hΓ d_L_law_499 rfl ?_
  refine tn_iload_n (pc := 500) hΓ d_L_law_500 rfl ?_
  refine tn_iconst (pc := 501) hΓ d_L_law_501 ic_1 ?_
  refine tn_iadd (pc := 502) hΓ d_L_law_502 ?_
  refine tn_sld (pc := 503) hΓ hX d_L_law_503 (hv 1 _ (by decide) rfl) ?_
  refine tn_aload_n (pc := 504) hΓ d_L_law_504 rfl ?_
  refine tn_iload_n (pc := 505) hΓ d_L_law_505 rfl ?_
  refine tn_iconst (pc := 506) hΓ d_L_law_506 ic_2 ?_
  refine tn_iadd (pc := 507) hΓ d_L_law_507 ?_
  refine tn_sld (pc := 508) hΓ hX d_L_law_508 (hv 2 _ (by decide) rfl) ?_
  refine tn_cvI (As := [.int (xs (i + (1 : Int32)).toNatClampNeg), .int (xs (i + (2 : Int32)).toNatClampNeg)]) (st := []) (x := 2) (i := 5) (pc := 509) hΓ d_L_law_509 mv_X5_fewest im_X5_fewest se_X5_fewest ml_7_58 ⟨⟨by decide, by decide⟩, (show ca + 0 ≤ 600000 by omega), (show sl + 0 ≤ 7302250 by omega)⟩ rfl rfl rfl (by decide) ⟨_, rfl⟩ (gd_k hG (c := 2) rfl) (Nat.le_of_ble_eq_true rfl) rfl (op_fewest hG hL (K := fun r1 r2 σ2 => r1 = r2 ∧ ro_L σ2) (fun r σ2 hl => ⟨rfl, hl⟩)) (fun r1 σ1 h1 => ?_)
  refine tn_aload_n (pc := 512) hΓ d_L_law_512 rfl ?_
  refine tn_aload_n (pc := 513) hΓ d_L_law_513 rfl ?_
  refine tn_iload_n (pc := 514) hΓ d_L_law_514 rfl ?_
  refine tn_iconst (pc := 515) hΓ d_L_law_515 ic_1 ?_
  refine tn_iadd (pc := 516) hΓ d_L_law_516 ?_
  refine tn_sld (pc := 517) hΓ hX d_L_law_517 (hv 1 _ (by decide) rfl) ?_
  refine tn_aload_n (pc := 518) hΓ d_L_law_518 rfl ?_
  refine tn_iload_n (pc := 519) hΓ d_L_law_519 rfl ?_
  refine tn_iconst (pc := 520) hΓ d_L_law_520 ic_2 ?_
  refine tn_iadd (pc := 521) hΓ d_L_law_521 ?_
  refine tn_sld (pc := 522) hΓ hX d_L_law_522 (hv 2 _ (by decide) rfl) ?_
  refine tn_cvI (As := [.int (xs (i + (1 : Int32)).toNatClampNeg), .int (xs (i + (2 : Int32)).toNatClampNeg)]) (st := [.int r1]) (x := 39) (i := 6) (pc := 523) hΓ d_L_law_523 mv_X6_fewest im_X6_fewest se_X6_fewest ml_7_61 ⟨⟨by decide, by decide⟩, (show ca + 0 ≤ 600000 by omega), (show sl + 0 ≤ 7302250 by omega)⟩ rfl rfl rfl (by decide) ⟨_, rfl⟩ (gd_k hG (c := 39) rfl) (Nat.le_of_ble_eq_true rfl) rfl h1 (fun r2 σ2 h2 => ?_)
  obtain ⟨rfl, hl⟩ := h2
  exact tn_icmp_eq (tgt := 1090) (pc := 526) hΓ d_L_law_526 (by decide) (fun _ => h _ _ _ _ _ (by omega) (by omega) hG hl) (fun hq => absurd rfl hq)
theorem lw_c11 {Γ : tn_G} {ks : List (Nat × Nat)} {ρ : Nat → Nat → Nat} {σ : Nat → Nat → Int32} {b L : Nat} {xs : Nat → Int32} {i : Int32} {ca sl : Nat} (hG : tn_Gd ks ρ) (hL : ro_L σ) (hΓ : tn_is Γ m_L_law) (hX : tn_sc Γ b L xs) (hv : ∀ (k : Nat) (x : Int32), k ≤ 5 → x = nI k → vp_in (i + x) L) (hca : ca ≤ 500000) (hsl : sl ≤ 5000000) (h : ∀ (ca' sl' : Nat) (ks' : List (Nat × Nat)) (ρ' : Nat → Nat → Nat) (σ' : Nat → Nat → Int32), ca' ≤ ca + 1 → sl' ≤ sl + 4 → tn_Gd ks' ρ' → ro_L σ' → tn_A Γ 1090 [.ref 1, .ref 2, .ref 39, .int i] [] ca' sl' ks' ρ' σ') : tn_A Γ 531 [.ref 1, .ref 2, .ref 39, .int i] [] ca sl ks ρ σ := by
  refine tn_aload_n (pc := 531) hΓ d_L_law_531 rfl ?_
  refine tn_aload_n (pc := 532) hΓ d_L_law_532 rfl ?_
  refine tn_iload_n (pc := 533) hΓ d_L_law_533 rfl ?_
  refine tn_iconst (pc := 534) hΓ d_L_law_534 ic_1 ?_
  refine tn_iadd (pc := 535) hΓ d_L_law_535 ?_
  refine tn_sld (pc := 536) hΓ hX d_L_law_536 (hv 1 _ (by decide) rfl) ?_
  refine tn_aload_n (pc := 537) hΓ d_L_law_537 rfl ?_
  refine tn_iload_n (pc := 538) hΓ d_L_law_538 rfl ?_
  refine tn_iconst (pc := 539) hΓ d_L_law_539 ic_2 ?_
  refine tn_iadd (pc := 540) hΓ d_L_law_540 ?_
  refine tn_sld (pc := 541) hΓ hX d_L_law_541 (hv 2 _ (by decide) rfl) ?_
  refine tn_cvI (As := [.int (xs (i + (1 : Int32)).toNatClampNeg), .int (xs (i + (2 : Int32)).toNatClampNeg)]) (st := []) (x := 2) (i := 5) (pc := 542) hΓ d_L_law_542 mv_X5_claps im_X5_claps se_X5_claps ml_7_62 ⟨⟨by decide, by decide⟩, (show ca + 0 ≤ 600000 by omega), (show sl + 0 ≤ 7302250 by omega)⟩ rfl rfl rfl (by decide) ⟨_, rfl⟩ (gd_k hG (c := 2) rfl) (Nat.le_of_ble_eq_true rfl) rfl (op_claps hG hL (K := fun r1 r2 σ2 => r1 = r2 ∧ ro_L σ2) (fun r σ2 hl => ⟨rfl, hl⟩)) (fun r1 σ1 h1 => ?_)
  refine tn_aload_n (pc := 545) hΓ d_L_law_545 rfl ?_
  refine tn_aload_n (pc := 546) hΓ d_L_law_546 rfl ?_
  refine tn_iload_n (pc := 547) hΓ d_L_law_547 rfl ?_
  refine tn_iconst (pc := 548) hΓ d_L_law_548 ic_1 ?_
  refine tn_iadd (pc := 549) hΓ d_L_law_549 ?_
  refine tn_sld (pc := 550) hΓ hX d_L_law_550 (hv 1 _ (by decide) rfl) ?_
  refine tn_aload_n (pc := 551) hΓ d_L_law_551 rfl ?_
  refine tn_iload_n (pc := 552) hΓ d_L_law_552 rfl ?_
  refine tn_iconst (pc := 553) hΓ d_L_law_553 ic_2 ?_
  refine tn_iadd (pc := 554) hΓ d_L_law_554 ?_
  refine tn_sld (pc := 555) hΓ hX d_L_law_555 (hv 2 _ (by decide) rfl) ?_
  refine tn_cvI (As := [.int (xs (i + (1 : Int32)).toNatClampNeg), .int (xs (i + (2 : Int32)).toNatClampNeg)]) (st := [.int r1]) (x := 39) (i := 6) (pc := 556) hΓ d_L_law_556 mv_X6_claps im_X6_claps se_X6_claps ml_7_65 ⟨⟨by decide, by decide⟩, (show ca + 0 ≤ 600000 by omega), (show sl + 0 ≤ 7302250 by omega)⟩ rfl rfl rfl (by decide) ⟨_, rfl⟩ (gd_k hG (c := 39) rfl) (Nat.le_of_ble_eq_true rfl) rfl h1 (fun r2 σ2 h2 => ?_)
  obtain ⟨rfl, hl⟩ := h2
  exact tn_icmp_eq (tgt := 1090) (pc := 559) hΓ d_L_law_559 (by decide) (fun _ => h _ _ _ _ _ (by omega) (by omega) hG hl) (fun hq => absurd rfl hq)
theorem lw_c12 {Γ : tn_G} {ks : List (Nat × Nat)} {ρ : Nat → Nat → Nat} {σ : Nat → Nat → Int32} {b L : Nat} {xs : Nat → Int32} {i : Int32} {ca sl : Nat} (hG : tn_Gd ks ρ) (hL : ro_L σ) (hΓ : tn_is Γ m_L_law) (hX : tn_sc Γ b L xs) (hv : ∀ (k : Nat) (x : Int32), k ≤ 5 → x = nI k → vp_in (i + x) L) (hca : ca ≤ 500000) (hsl : sl ≤ 5000000) (h : ∀ (ca' sl' : Nat) (ks' : List (Nat × Nat)) (ρ' : Nat → Nat → Nat) (σ' : Nat → Nat → Int32), ca' ≤ ca + 1 → sl' ≤ sl + 4 → tn_Gd ks' ρ' → ro_L σ' → tn_A Γ 1090 [.ref 1, .ref 2, .ref 39, .int i] [] ca' sl' ks' ρ' σ') : tn_A Γ 564 [.ref 1, .ref 2, .ref 39, .int i] [] ca sl ks ρ σ := by
  refine tn_aload_n (pc := 564) hΓ d_L_law_564 rfl ?_
  refine tn_aload_n (pc := 565) hΓ d_L_law_565 rfl ?_
  refine tn_iload_n (pc := 566) hΓ d_L_law_566 rfl ?_
  refine tn_iconst (pc := 567) hΓ d_L_law_567 ic_1 ?_
  refine tn_iadd (pc := 568) hΓ d_L_law_568 ?_
  refine tn_sld (pc := 569) hΓ hX d_L_law_569 (hv 1 _ (by decide) rfl) ?_
  refine tn_aload_n (pc := 570) hΓ d_L_law_570 rfl ?_
  refine tn_iload_n (pc := 571) hΓ d_L_law_571 rfl ?_
  refine tn_iconst (pc := 572) hΓ d_L_law_572 ic_2 ?_
  refine tn_iadd (pc := 573) hΓ d_L_law_573 ?_
  refine tn_sld (pc := 574) hΓ hX d_L_law_574 (hv 2 _ (by decide) rfl) ?_
  refine tn_cvI (As := [.int (xs (i + (1 : Int32)).toNatClampNeg), .int (xs (i + (2 : Int32)).toNatClampNeg)]) (st := []) (x := 2) (i := 5) (pc := 575) hΓ d_L_law_575 mv_X5_rests im_X5_rests se_X5_rests ml_7_66 ⟨⟨by decide, by decide⟩, (show ca + 0 ≤ 600000 by omega), (show sl + 0 ≤ 7302250 by omega)⟩ rfl rfl rfl (by decide) ⟨_, rfl⟩ (gd_k hG (c := 2) rfl) (Nat.le_of_ble_eq_true rfl) rfl (op_rests hG hL (K := fun r1 r2 σ2 => r1 = r2 ∧ ro_L σ2) (fun r σ2 hl => ⟨rfl, hl⟩)) (fun r1 σ1 h1 => ?_)
  refine tn_aload_n (pc := 578) hΓ d_L_law_578 rfl ?_
  refine tn_aload_n (pc := 579) hΓ d_L_law_579 rfl ?_
  refine tn_iload_n (pc := 580) hΓ d_L_law_580 rfl ?_
  refine tn_iconst (pc := 581) hΓ d_L_law_581 ic_1 ?_
  refine tn_iadd (pc := 582) hΓ d_L_law_582 ?_
  refine tn_sld (pc := 583) hΓ hX d_L_law_583 (hv 1 _ (by decide) rfl) ?_
  refine tn_aload_n (pc := 584) hΓ d_L_law_584 rfl ?_
  refine tn_iload_n (pc := 585) hΓ d_L_law_585 rfl ?_
  refine tn_iconst (pc := 586) hΓ d_L_law_586 ic_2 ?_
  refine tn_iadd (pc := 587) hΓ d_L_law_587 ?_
  refine tn_sld (pc := 588) hΓ hX d_L_law_588 (hv 2 _ (by decide) rfl) ?_
  refine tn_cvI (As := [.int (xs (i + (1 : Int32)).toNatClampNeg), .int (xs (i + (2 : Int32)).toNatClampNeg)]) (st := [.int r1]) (x := 39) (i := 6) (pc := 589) hΓ d_L_law_589 mv_X6_rests im_X6_rests se_X6_rests ml_7_69 ⟨⟨by decide, by decide⟩, (show ca + 0 ≤ 600000 by omega), (show sl + 0 ≤ 7302250 by omega)⟩ rfl rfl rfl (by decide) ⟨_, rfl⟩ (gd_k hG (c := 39) rfl) (Nat.le_of_ble_eq_true rfl) rfl h1 (fun r2 σ2 h2 => ?_)
  obtain ⟨rfl, hl⟩ := h2
  exact tn_icmp_eq (tgt := 1090) (pc := 592) hΓ d_L_law_592 (by decide) (fun _ => h _ _ _ _ _ (by omega) (by omega) hG hl) (fun hq => absurd rfl hq)
theorem lw_c13 {Γ : tn_G} {ks : List (Nat × Nat)} {ρ : Nat → Nat → Nat} {σ : Nat → Nat → Int32} {b L : Nat} {xs : Nat → Int32} {i : Int32} {ca sl : Nat} (hG : tn_Gd ks ρ) (hL : ro_L σ) (hΓ : tn_is Γ m_L_law) (hX : tn_sc Γ b L xs) (hv : ∀ (k : Nat) (x : Int32), k ≤ 5 → x = nI k → vp_in (i + x) L) (hca : ca ≤ 500000) (hsl : sl ≤ 5000000) (h : ∀ (ca' sl' : Nat) (ks' : List (Nat × Nat)) (ρ' : Nat → Nat → Nat) (σ' : Nat → Nat → Int32), ca' ≤ ca + 1 → sl' ≤ sl + 4 → tn_Gd ks' ρ' → ro_L σ' → tn_A Γ 1090 [.ref 1, .ref 2, .ref 39, .int i] [] ca' sl' ks' ρ' σ') : tn_A Γ 597 [.ref 1, .ref 2, .ref 39, .int i] [] ca sl ks ρ σ := by
  refine tn_aload_n (pc := 597) hΓ d_L_law_597 rfl ?_
  refine tn_aload_n (pc := 598) hΓ d_L_law_598 rfl ?_
  refine tn_iload_n (pc := 599) hΓ d_L_law_599 rfl ?_
  refine tn_iconst (pc := 600) hΓ d_L_law_600 ic_1 ?_
  refine tn_iadd (pc := 601) hΓ d_L_law_601 ?_
  refine tn_sld (pc := 602) hΓ hX d_L_law_602 (hv 1 _ (by decide) rfl) ?_
  refine tn_aload_n (pc := 603) hΓ d_L_law_603 rfl ?_
  refine tn_iload_n (pc := 604) hΓ d_L_law_604 rfl ?_
  refine tn_iconst (pc := 605) hΓ d_L_law_605 ic_2 ?_
  refine tn_iadd (pc := 606) hΓ d_L_law_606 ?_
  refine tn_sld (pc := 607) hΓ hX d_L_law_607 (hv 2 _ (by decide) rfl) ?_
  refine tn_cvI (As := [.int (xs (i + (1 : Int32)).toNatClampNeg), .int (xs (i + (2 : Int32)).toNatClampNeg)]) (st := []) (x := 2) (i := 5) (pc := 608) hΓ d_L_law_608 mv_X5_reading im_X5_reading se_X5_reading ml_7_70 ⟨⟨by decide, by decide⟩, (show ca + 0 ≤ 600000 by omega), (show sl + 0 ≤ 7302250 by omega)⟩ rfl rfl rfl (by decide) ⟨_, rfl⟩ (gd_k hG (c := 2) rfl) (Nat.le_of_ble_eq_true rfl) rfl (op_reading hG hL (K := fun r1 r2 σ2 => r1 = r2 ∧ ro_L σ2) (fun r σ2 hl => ⟨rfl, hl⟩)) (fun r1 σ1 h1 => ?_)
  refine tn_aload_n (pc := 611) hΓ d_L_law_611 rfl ?_
  refine tn_aload_n (pc := 612) hΓ d_L_law_612 rfl ?_
  refine tn_iload_n (pc := 613) hΓ d_L_law_613 rfl ?_
  refine tn_iconst (pc := 614) hΓ d_L_law_614 ic_1 ?_
  refine tn_iadd (pc := 615) hΓ d_L_law_615 ?_
  refine tn_sld (pc := 616) hΓ hX d_L_law_616 (hv 1 _ (by decide) rfl) ?_
  refine tn_aload_n (pc := 617) hΓ d_L_law_617 rfl ?_
  refine tn_iload_n (pc := 618) hΓ d_L_law_618 rfl ?_
  refine tn_iconst (pc := 619) hΓ d_L_law_619 ic_2 ?_
  refine tn_iadd (pc := 620) hΓ d_L_law_620 ?_
  refine tn_sld (pc := 621) hΓ hX d_L_law_621 (hv 2 _ (by decide) rfl) ?_
  refine tn_cvI (As := [.int (xs (i + (1 : Int32)).toNatClampNeg), .int (xs (i + (2 : Int32)).toNatClampNeg)]) (st := [.int r1]) (x := 39) (i := 6) (pc := 622) hΓ d_L_law_622 mv_X6_reading im_X6_reading se_X6_reading ml_7_73 ⟨⟨by decide, by decide⟩, (show ca + 0 ≤ 600000 by omega), (show sl + 0 ≤ 7302250 by omega)⟩ rfl rfl rfl (by decide) ⟨_, rfl⟩ (gd_k hG (c := 39) rfl) (Nat.le_of_ble_eq_true rfl) rfl h1 (fun r2 σ2 h2 => ?_)
  obtain ⟨rfl, hl⟩ := h2
  exact tn_icmp_eq (tgt := 1090) (pc := 625) hΓ d_L_law_625 (by decide) (fun _ => h _ _ _ _ _ (by omega) (by omega) hG hl) (fun hq => absurd rfl hq)
theorem lw_c14 {Γ : tn_G} {ks : List (Nat × Nat)} {ρ : Nat → Nat → Nat} {σ : Nat → Nat → Int32} {b L : Nat} {xs : Nat → Int32} {i : Int32} {ca sl : Nat} (hG : tn_Gd ks ρ) (hL : ro_L σ) (hΓ : tn_is Γ m_L_law) (hX : tn_sc Γ b L xs) (hv : ∀ (k : Nat) (x : Int32), k ≤ 5 → x = nI k → vp_in (i + x) L) (hca : ca ≤ 500000) (hsl : sl ≤ 5000000) (h : ∀ (ca' sl' : Nat) (ks' : List (Nat × Nat)) (ρ' : Nat → Nat → Nat) (σ' : Nat → Nat → Int32), ca' ≤ ca + 1 → sl' ≤ sl + 4 → tn_Gd ks' ρ' → ro_L σ' → tn_A Γ 1090 [.ref 1, .ref 2, .ref 39, .int i] [] ca' sl' ks' ρ' σ') : tn_A Γ 630 [.ref 1, .ref 2, .ref 39, .int i] [] ca sl ks ρ σ := by
  refine tn_aload_n (pc := 630) hΓ d_L_law_630 rfl ?_
  refine tn_aload_n (pc := 631) hΓ d_L_law_631 rfl ?_
  refine tn_iload_n (pc := 632) hΓ d_L_law_632 rfl ?_
  refine tn_iconst (pc := 633) hΓ d_L_law_633 ic_1 ?_
  refine tn_iadd (pc := 634) hΓ d_L_law_634 ?_
  refine tn_sld (pc := 635) hΓ hX d_L_law_635 (hv 1 _ (by decide) rfl) ?_
  refine tn_cvI (As := [.int (xs (i + (1 : Int32)).toNatClampNeg)]) (st := []) (x := 2) (i := 5) (pc := 636) hΓ d_L_law_636 mv_X5_back im_X5_back se_X5_back ml_7_74 ⟨⟨by decide, by decide⟩, (show ca + 0 ≤ 600000 by omega), (show sl + 0 ≤ 7302250 by omega)⟩ rfl rfl rfl (by decide) ⟨_, rfl⟩ (gd_k hG (c := 2) rfl) (Nat.le_of_ble_eq_true rfl) rfl (op_back hG hL (K := fun r1 r2 σ2 => r1 = r2 ∧ ro_L σ2) (fun r σ2 hl => ⟨rfl, hl⟩)) (fun r1 σ1 h1 => ?_)
  refine tn_aload_n (pc := 639) hΓ d_L_law_639 rfl ?_
  refine tn_aload_n (pc := 640) hΓ d_L_law_640 rfl ?_
  refine tn_iload_n (pc := 641) hΓ d_L_law_641 rfl ?_
  refine tn_iconst (pc := 642) hΓ d_L_law_642 ic_1 ?_
  refine tn_iadd (pc := 643) hΓ d_L_law_643 ?_
  refine tn_sld (pc := 644) hΓ hX d_L_law_644 (hv 1 _ (by decide) rfl) ?_
  refine tn_cvI (As := [.int (xs (i + (1 : Int32)).toNatClampNeg)]) (st := [.int r1]) (x := 39) (i := 6) (pc := 645) hΓ d_L_law_645 mv_X6_back im_X6_back se_X6_back ml_7_77 ⟨⟨by decide, by decide⟩, (show ca + 0 ≤ 600000 by omega), (show sl + 0 ≤ 7302250 by omega)⟩ rfl rfl rfl (by decide) ⟨_, rfl⟩ (gd_k hG (c := 39) rfl) (Nat.le_of_ble_eq_true rfl) rfl h1 (fun r2 σ2 h2 => ?_)
  obtain ⟨rfl, hl⟩ := h2
  exact tn_icmp_eq (tgt := 1090) (pc := 648) hΓ d_L_law_648 (by decide) (fun _ => h _ _ _ _ _ (by omega) (by omega) hG hl) (fun hq => absurd rfl hq)
theorem lw_c15 {Γ : tn_G} {ks : List (Nat × Nat)} {ρ : Nat → Nat → Nat} {σ : Nat → Nat → Int32} {b L : Nat} {xs : Nat → Int32} {i : Int32} {ca sl : Nat} (hG : tn_Gd ks ρ) (hL : ro_L σ) (hΓ : tn_is Γ m_L_law) (hX : tn_sc Γ b L xs) (hv : ∀ (k : Nat) (x : Int32), k ≤ 5 → x = nI k → vp_in (i + x) L) (hca : ca ≤ 500000) (hsl : sl ≤ 5000000) (h : ∀ (ca' sl' : Nat) (ks' : List (Nat × Nat)) (ρ' : Nat → Nat → Nat) (σ' : Nat → Nat → Int32), ca' ≤ ca + 1 → sl' ≤ sl + 4 → tn_Gd ks' ρ' → ro_L σ' → tn_A Γ 1090 [.ref 1, .ref 2, .ref 39, .int i] [] ca' sl' ks' ρ' σ') : tn_A Γ 653 [.ref 1, .ref 2, .ref 39, .int i] [] ca sl ks ρ σ := by
  refine tn_aload_n (pc := 653) hΓ d_L_law_653 rfl ?_
  refine tn_aload_n (pc := 654) hΓ d_L_law_654 rfl ?_
  refine tn_iload_n (pc := 655) hΓ d_L_law_655 rfl ?_
  refine tn_iconst (pc := 656) hΓ d_L_law_656 ic_1 ?_
  refine tn_iadd (pc := 657) hΓ d_L_law_657 ?_
  refine tn_sld (pc := 658) hΓ hX d_L_law_658 (hv 1 _ (by decide) rfl) ?_
  refine tn_cvI (As := [.int (xs (i + (1 : Int32)).toNatClampNeg)]) (st := []) (x := 2) (i := 5) (pc := 659) hΓ d_L_law_659 mv_X5_kinds im_X5_kinds se_X5_kinds ml_7_78 ⟨⟨by decide, by decide⟩, (show ca + 0 ≤ 600000 by omega), (show sl + 0 ≤ 7302250 by omega)⟩ rfl rfl rfl (by decide) ⟨_, rfl⟩ (gd_k hG (c := 2) rfl) (Nat.le_of_ble_eq_true rfl) rfl (op_kinds hG hL (K := fun r1 r2 σ2 => r1 = r2 ∧ ro_L σ2) (fun r σ2 hl => ⟨rfl, hl⟩)) (fun r1 σ1 h1 => ?_)
  refine tn_aload_n (pc := 662) hΓ d_L_law_662 rfl ?_
  refine tn_aload_n (pc := 663) hΓ d_L_law_663 rfl ?_
  refine tn_iload_n (pc := 664) hΓ d_L_law_664 rfl ?_
  refine tn_iconst (pc := 665) hΓ d_L_law_665 ic_1 ?_
  refine tn_iadd (pc := 666) hΓ d_L_law_666 ?_
  refine tn_sld (pc := 667) hΓ hX d_L_law_667 (hv 1 _ (by decide) rfl) ?_
  refine tn_cvI (As := [.int (xs (i + (1 : Int32)).toNatClampNeg)]) (st := [.int r1]) (x := 39) (i := 6) (pc := 668) hΓ d_L_law_668 mv_X6_kinds im_X6_kinds se_X6_kinds ml_7_81 ⟨⟨by decide, by decide⟩, (show ca + 0 ≤ 600000 by omega), (show sl + 0 ≤ 7302250 by omega)⟩ rfl rfl rfl (by decide) ⟨_, rfl⟩ (gd_k hG (c := 39) rfl) (Nat.le_of_ble_eq_true rfl) rfl h1 (fun r2 σ2 h2 => ?_)
  obtain ⟨rfl, hl⟩ := h2
  exact tn_icmp_eq (tgt := 1090) (pc := 671) hΓ d_L_law_671 (by decide) (fun _ => h _ _ _ _ _ (by omega) (by omega) hG hl) (fun hq => absurd rfl hq)
theorem lw_c16 {Γ : tn_G} {ks : List (Nat × Nat)} {ρ : Nat → Nat → Nat} {σ : Nat → Nat → Int32} {b L : Nat} {xs : Nat → Int32} {i : Int32} {ca sl : Nat} (hG : tn_Gd ks ρ) (hL : ro_L σ) (hΓ : tn_is Γ m_L_law) (hX : tn_sc Γ b L xs) (hv : ∀ (k : Nat) (x : Int32), k ≤ 5 → x = nI k → vp_in (i + x) L) (hca : ca ≤ 500000) (hsl : sl ≤ 5000000) (h : ∀ (ca' sl' : Nat) (ks' : List (Nat × Nat)) (ρ' : Nat → Nat → Nat) (σ' : Nat → Nat → Int32), ca' ≤ ca + 1 → sl' ≤ sl + 4 → tn_Gd ks' ρ' → ro_L σ' → tn_A Γ 1090 [.ref 1, .ref 2, .ref 39, .int i] [] ca' sl' ks' ρ' σ') : tn_A Γ 676 [.ref 1, .ref 2, .ref 39, .int i] [] ca sl ks ρ σ := by
  refine tn_aload_n (pc := 676) hΓ d_L_law_676 rfl ?_
  refine tn_aload_n (pc := 677) hΓ d_L_law_677 rfl ?_
  refine tn_iload_n (pc := 678) hΓ d_L_law_678 rfl ?_
  refine tn_iconst (pc := 679) hΓ d_L_law_679 ic_1 ?_
  refine tn_iadd (pc := 680) hΓ d_L_law_680 ?_
  refine tn_sld (pc := 681) hΓ hX d_L_law_681 (hv 1 _ (by decide) rfl) ?_
  refine tn_cvI (As := [.int (xs (i + (1 : Int32)).toNatClampNeg)]) (st := []) (x := 2) (i := 5) (pc := 682) hΓ d_L_law_682 mv_X5_wrongs im_X5_wrongs se_X5_wrongs ml_7_82 ⟨⟨by decide, by decide⟩, (show ca + 0 ≤ 600000 by omega), (show sl + 0 ≤ 7302250 by omega)⟩ rfl rfl rfl (by decide) ⟨_, rfl⟩ (gd_k hG (c := 2) rfl) (Nat.le_of_ble_eq_true rfl) rfl (op_wrongs hG hL (K := fun r1 r2 σ2 => r1 = r2 ∧ ro_L σ2) (fun r σ2 hl => ⟨rfl, hl⟩)) (fun r1 σ1 h1 => ?_)
  refine tn_aload_n (pc := 685) hΓ d_L_law_685 rfl ?_
  refine tn_aload_n (pc := 686) hΓ d_L_law_686 rfl ?_
  refine tn_iload_n (pc := 687) hΓ d_L_law_687 rfl ?_
  refine tn_iconst (pc := 688) hΓ d_L_law_688 ic_1 ?_
  refine tn_iadd (pc := 689) hΓ d_L_law_689 ?_
  refine tn_sld (pc := 690) hΓ hX d_L_law_690 (hv 1 _ (by decide) rfl) ?_
  refine tn_cvI (As := [.int (xs (i + (1 : Int32)).toNatClampNeg)]) (st := [.int r1]) (x := 39) (i := 6) (pc := 691) hΓ d_L_law_691 mv_X6_wrongs im_X6_wrongs se_X6_wrongs ml_7_85 ⟨⟨by decide, by decide⟩, (show ca + 0 ≤ 600000 by omega), (show sl + 0 ≤ 7302250 by omega)⟩ rfl rfl rfl (by decide) ⟨_, rfl⟩ (gd_k hG (c := 39) rfl) (Nat.le_of_ble_eq_true rfl) rfl h1 (fun r2 σ2 h2 => ?_)
  obtain ⟨rfl, hl⟩ := h2
  exact tn_icmp_eq (tgt := 1090) (pc := 694) hΓ d_L_law_694 (by decide) (fun _ => h _ _ _ _ _ (by omega) (by omega) hG hl) (fun hq => absurd rfl hq)
theorem lw_c17 {Γ : tn_G} {ks : List (Nat × Nat)} {ρ : Nat → Nat → Nat} {σ : Nat → Nat → Int32} {b L : Nat} {xs : Nat → Int32} {i : Int32} {ca sl : Nat} (hG : tn_Gd ks ρ) (hL : ro_L σ) (hΓ : tn_is Γ m_L_law) (hX : tn_sc Γ b L xs) (hv : ∀ (k : Nat) (x : Int32), k ≤ 5 → x = nI k → vp_in (i + x) L) (hca : ca ≤ 500000) (hsl : sl ≤ 5000000) (h : ∀ (ca' sl' : Nat) (ks' : List (Nat × Nat)) (ρ' : Nat → Nat → Nat) (σ' : Nat → Nat → Int32), ca' ≤ ca + 1 → sl' ≤ sl + 4 → tn_Gd ks' ρ' → ro_L σ' → tn_A Γ 1090 [.ref 1, .ref 2, .ref 39, .int i] [] ca' sl' ks' ρ' σ') : tn_A Γ 699 [.ref 1, .ref 2, .ref 39, .int i] [] ca sl ks ρ σ := by
  refine tn_aload_n (pc := 699) hΓ d_L_law_699 rfl ?_
  refine tn_cvI (As := []) (st := []) (x := 2) (i := 5) (pc := 700) hΓ d_L_law_700 mv_X5_steps im_X5_steps se_X5_steps ml_7_86 ⟨⟨by decide, by decide⟩, (show ca + 0 ≤ 600000 by omega), (show sl + 0 ≤ 7302250 by omega)⟩ rfl rfl rfl (by decide) ⟨_, rfl⟩ (gd_k hG (c := 2) rfl) (Nat.le_of_ble_eq_true rfl) rfl (op_steps hG hL (K := fun r1 r2 σ2 => r1 = r2 ∧ ro_L σ2) (fun r σ2 hl => ⟨rfl, hl⟩)) (fun r1 σ1 h1 => ?_)
  refine tn_aload_n (pc := 703) hΓ d_L_law_703 rfl ?_
  refine tn_cvI (As := []) (st := [.int r1]) (x := 39) (i := 6) (pc := 704) hΓ d_L_law_704 mv_X6_steps im_X6_steps se_X6_steps ml_7_89 ⟨⟨by decide, by decide⟩, (show ca + 0 ≤ 600000 by omega), (show sl + 0 ≤ 7302250 by omega)⟩ rfl rfl rfl (by decide) ⟨_, rfl⟩ (gd_k hG (c := 39) rfl) (Nat.le_of_ble_eq_true rfl) rfl h1 (fun r2 σ2 h2 => ?_)
  obtain ⟨rfl, hl⟩ := h2
  exact tn_icmp_eq (tgt := 1090) (pc := 707) hΓ d_L_law_707 (by decide) (fun _ => h _ _ _ _ _ (by omega) (by omega) hG hl) (fun hq => absurd rfl hq)
theorem lw_c18 {Γ : tn_G} {ks : List (Nat × Nat)} {ρ : Nat → Nat → Nat} {σ : Nat → Nat → Int32} {b L : Nat} {xs : Nat → Int32} {i : Int32} {ca sl : Nat} (hG : tn_Gd ks ρ) (hL : ro_L σ) (hΓ : tn_is Γ m_L_law) (hX : tn_sc Γ b L xs) (hv : ∀ (k : Nat) (x : Int32), k ≤ 5 → x = nI k → vp_in (i + x) L) (hca : ca ≤ 500000) (hsl : sl ≤ 5000000) (h : ∀ (ca' sl' : Nat) (ks' : List (Nat × Nat)) (ρ' : Nat → Nat → Nat) (σ' : Nat → Nat → Int32), ca' ≤ ca + 1 → sl' ≤ sl + 4 → tn_Gd ks' ρ' → ro_L σ' → tn_A Γ 1090 [.ref 1, .ref 2, .ref 39, .int i] [] ca' sl' ks' ρ' σ') : tn_A Γ 712 [.ref 1, .ref 2, .ref 39, .int i] [] ca sl ks ρ σ := by
  refine tn_aload_n (pc := 712) hΓ d_L_law_712 rfl ?_
  refine tn_aload_n (pc := 713) hΓ d_L_law_713 rfl ?_
  refine tn_iload_n (pc := 714) hΓ d_L_law_714 rfl ?_
  refine tn_iconst (pc := 715) hΓ d_L_law_715 ic_1 ?_
  refine tn_iadd (pc := 716) hΓ d_L_law_716 ?_
  refine tn_sld (pc := 717) hΓ hX d_L_law_717 (hv 1 _ (by decide) rfl) ?_
  refine tn_aload_n (pc := 718) hΓ d_L_law_718 rfl ?_
  refine tn_iload_n (pc := 719) hΓ d_L_law_719 rfl ?_
  refine tn_iconst (pc := 720) hΓ d_L_law_720 ic_2 ?_
  refine tn_iadd (pc := 721) hΓ d_L_law_721 ?_
  refine tn_sld (pc := 722) hΓ hX d_L_law_722 (hv 2 _ (by decide) rfl) ?_
  refine tn_cvL (As := [.int (xs (i + (1 : Int32)).toNatClampNeg), .int (xs (i + (2 : Int32)).toNatClampNeg)]) (st := []) (x := 2) (i := 5) (pc := 723) hΓ d_L_law_723 mv_X5_odds im_X5_odds se_X5_odds ml_7_90 ⟨⟨by decide, by decide⟩, (show ca + 0 ≤ 600000 by omega), (show sl + 0 ≤ 7302250 by omega)⟩ rfl rfl rfl (by decide) ⟨_, rfl⟩ (gd_k hG (c := 2) rfl) (Nat.le_of_ble_eq_true rfl) rfl (op_odds hG hL (K := fun r1 r2 σ2 => r1 = r2 ∧ ro_L σ2) (fun r σ2 hl => ⟨rfl, hl⟩)) (fun r1 σ1 h1 => ?_)
  refine tn_aload_n (pc := 726) hΓ d_L_law_726 rfl ?_
  refine tn_aload_n (pc := 727) hΓ d_L_law_727 rfl ?_
  refine tn_iload_n (pc := 728) hΓ d_L_law_728 rfl ?_
  refine tn_iconst (pc := 729) hΓ d_L_law_729 ic_1 ?_
  refine tn_iadd (pc := 730) hΓ d_L_law_730 ?_
  refine tn_sld (pc := 731) hΓ hX d_L_law_731 (hv 1 _ (by decide) rfl) ?_
  refine tn_aload_n (pc := 732) hΓ d_L_law_732 rfl ?_
  refine tn_iload_n (pc := 733) hΓ d_L_law_733 rfl ?_
  refine tn_iconst (pc := 734) hΓ d_L_law_734 ic_2 ?_
  refine tn_iadd (pc := 735) hΓ d_L_law_735 ?_
  refine tn_sld (pc := 736) hΓ hX d_L_law_736 (hv 2 _ (by decide) rfl) ?_
  refine tn_cvL (As := [.int (xs (i + (1 : Int32)).toNatClampNeg), .int (xs (i + (2 : Int32)).toNatClampNeg)]) (st := [.long r1]) (x := 39) (i := 6) (pc := 737) hΓ d_L_law_737 mv_X6_odds im_X6_odds se_X6_odds ml_7_94 ⟨⟨by decide, by decide⟩, (show ca + 0 ≤ 600000 by omega), (show sl + 0 ≤ 7302250 by omega)⟩ rfl rfl rfl (by decide) ⟨_, rfl⟩ (gd_k hG (c := 39) rfl) (Nat.le_of_ble_eq_true rfl) rfl h1 (fun r2 σ2 h2 => ?_)
  obtain ⟨rfl, hl⟩ := h2
  refine tn_lcmp (pc := 740) hΓ d_L_law_740 ?_
  exact tn_if_eq (tgt := 1090) (pc := 741) hΓ d_L_law_741 (by decide) (fun _ => h _ _ _ _ _ (by omega) (by omega) hG hl) (fun hq => absurd (lg_rr _) hq)
theorem lw_c19 {Γ : tn_G} {ks : List (Nat × Nat)} {ρ : Nat → Nat → Nat} {σ : Nat → Nat → Int32} {b L : Nat} {xs : Nat → Int32} {i : Int32} {ca sl : Nat} (hG : tn_Gd ks ρ) (hL : ro_L σ) (hΓ : tn_is Γ m_L_law) (hX : tn_sc Γ b L xs) (hv : ∀ (k : Nat) (x : Int32), k ≤ 5 → x = nI k → vp_in (i + x) L) (hca : ca ≤ 500000) (hsl : sl ≤ 5000000) (h : ∀ (ca' sl' : Nat) (ks' : List (Nat × Nat)) (ρ' : Nat → Nat → Nat) (σ' : Nat → Nat → Int32), ca' ≤ ca + 1 → sl' ≤ sl + 4 → tn_Gd ks' ρ' → ro_L σ' → tn_A Γ 1090 [.ref 1, .ref 2, .ref 39, .int i] [] ca' sl' ks' ρ' σ') : tn_A Γ 746 [.ref 1, .ref 2, .ref 39, .int i] [] ca sl ks ρ σ := by
  refine tn_aload_n (pc := 746) hΓ d_L_law_746 rfl ?_
  refine tn_aload_n (pc := 747) hΓ d_L_law_747 rfl ?_
  refine tn_iload_n (pc := 748) hΓ d_L_law_748 rfl ?_
  refine tn_iconst (pc := 749) hΓ d_L_law_749 ic_1 ?_
  refine tn_iadd (pc := 750) hΓ d_L_law_750 ?_
  refine tn_sld (pc := 751) hΓ hX d_L_law_751 (hv 1 _ (by decide) rfl) ?_
  refine tn_aload_n (pc := 752) hΓ d_L_law_752 rfl ?_
  refine tn_iload_n (pc := 753) hΓ d_L_law_753 rfl ?_
  refine tn_iconst (pc := 754) hΓ d_L_law_754 ic_2 ?_
  refine tn_iadd (pc := 755) hΓ d_L_law_755 ?_
  refine tn_sld (pc := 756) hΓ hX d_L_law_756 (hv 2 _ (by decide) rfl) ?_
  refine tn_aload_n (pc := 757) hΓ d_L_law_757 rfl ?_
  refine tn_iload_n (pc := 758) hΓ d_L_law_758 rfl ?_
  refine tn_iconst (pc := 759) hΓ d_L_law_759 ic_3 ?_
  refine tn_iadd (pc := 760) hΓ d_L_law_760 ?_
  refine tn_sld (pc := 761) hΓ hX d_L_law_761 (hv 3 _ (by decide) rfl) ?_
  refine tn_cvI (As := [.int (xs (i + (1 : Int32)).toNatClampNeg), .int (xs (i + (2 : Int32)).toNatClampNeg), .int (xs (i + (3 : Int32)).toNatClampNeg)]) (st := []) (x := 2) (i := 5) (pc := 762) hΓ d_L_law_762 mv_X5_sheet im_X5_sheet se_X5_sheet ml_7_95 ⟨⟨by decide, by decide⟩, (show ca + 0 ≤ 600000 by omega), (show sl + 0 ≤ 7302250 by omega)⟩ rfl rfl rfl (by decide) ⟨_, rfl⟩ (gd_k hG (c := 2) rfl) (Nat.le_of_ble_eq_true rfl) rfl (op_sheet hG hL (K := fun r1 r2 σ2 => r1 = r2 ∧ ro_L σ2) (fun r σ2 hl => ⟨rfl, hl⟩)) (fun r1 σ1 h1 => ?_)
  refine tn_aload_n (pc := 765) hΓ d_L_law_765 rfl ?_
  refine tn_aload_n (pc := 766) hΓ d_L_law_766 rfl ?_
  refine tn_iload_n (pc := 767) hΓ d_L_law_767 rfl ?_
  refine tn_iconst (pc := 768) hΓ d_L_law_768 ic_1 ?_
  refine tn_iadd (pc := 769) hΓ d_L_law_769 ?_
  refine tn_sld (pc := 770) hΓ hX d_L_law_770 (hv 1 _ (by decide) rfl) ?_
  refine tn_aload_n (pc := 771) hΓ d_L_law_771 rfl ?_
  refine tn_iload_n (pc := 772) hΓ d_L_law_772 rfl ?_
  refine tn_iconst (pc := 773) hΓ d_L_law_773 ic_2 ?_
  refine tn_iadd (pc := 774) hΓ d_L_law_774 ?_
  refine tn_sld (pc := 775) hΓ hX d_L_law_775 (hv 2 _ (by decide) rfl) ?_
  refine tn_aload_n (pc := 776) hΓ d_L_law_776 rfl ?_
  refine tn_iload_n (pc := 777) hΓ d_L_law_777 rfl ?_
  refine tn_iconst (pc := 778) hΓ d_L_law_778 ic_3 ?_
  refine tn_iadd (pc := 779) hΓ d_L_law_779 ?_
  refine tn_sld (pc := 780) hΓ hX d_L_law_780 (hv 3 _ (by decide) rfl) ?_
  refine tn_cvI (As := [.int (xs (i + (1 : Int32)).toNatClampNeg), .int (xs (i + (2 : Int32)).toNatClampNeg), .int (xs (i + (3 : Int32)).toNatClampNeg)]) (st := [.int r1]) (x := 39) (i := 6) (pc := 781) hΓ d_L_law_781 mv_X6_sheet im_X6_sheet se_X6_sheet ml_7_99 ⟨⟨by decide, by decide⟩, (show ca + 0 ≤ 600000 by omega), (show sl + 0 ≤ 7302250 by omega)⟩ rfl rfl rfl (by decide) ⟨_, rfl⟩ (gd_k hG (c := 39) rfl) (Nat.le_of_ble_eq_true rfl) rfl h1 (fun r2 σ2 h2 => ?_)
  obtain ⟨rfl, hl⟩ := h2
  exact tn_icmp_eq (tgt := 1090) (pc := 784) hΓ d_L_law_784 (by decide) (fun _ => h _ _ _ _ _ (by omega) (by omega) hG hl) (fun hq => absurd rfl hq)
theorem lw_c20 {Γ : tn_G} {ks : List (Nat × Nat)} {ρ : Nat → Nat → Nat} {σ : Nat → Nat → Int32} {b L : Nat} {xs : Nat → Int32} {i : Int32} {ca sl : Nat} (hG : tn_Gd ks ρ) (hL : ro_L σ) (hΓ : tn_is Γ m_L_law) (hX : tn_sc Γ b L xs) (hv : ∀ (k : Nat) (x : Int32), k ≤ 5 → x = nI k → vp_in (i + x) L) (hca : ca ≤ 500000) (hsl : sl ≤ 5000000) (h : ∀ (ca' sl' : Nat) (ks' : List (Nat × Nat)) (ρ' : Nat → Nat → Nat) (σ' : Nat → Nat → Int32), ca' ≤ ca + 1 → sl' ≤ sl + 4 → tn_Gd ks' ρ' → ro_L σ' → tn_A Γ 1090 [.ref 1, .ref 2, .ref 39, .int i] [] ca' sl' ks' ρ' σ') : tn_A Γ 789 [.ref 1, .ref 2, .ref 39, .int i] [] ca sl ks ρ σ := by
  refine tn_aload_n (pc := 789) hΓ d_L_law_789 rfl ?_
  refine tn_aload_n (pc := 790) hΓ d_L_law_790 rfl ?_
  refine tn_iload_n (pc := 791) hΓ d_L_law_791 rfl ?_
  refine tn_iconst (pc := 792) hΓ d_L_law_792 ic_1 ?_
  refine tn_iadd (pc := 793) hΓ d_L_law_793 ?_
  refine tn_sld (pc := 794) hΓ hX d_L_law_794 (hv 1 _ (by decide) rfl) ?_
  refine tn_cvI (As := [.int (xs (i + (1 : Int32)).toNatClampNeg)]) (st := []) (x := 2) (i := 5) (pc := 795) hΓ d_L_law_795 mv_X5_lose im_X5_lose se_X5_lose ml_7_100 ⟨⟨by decide, by decide⟩, (show ca + 0 ≤ 600000 by omega), (show sl + 0 ≤ 7302250 by omega)⟩ rfl rfl rfl (by decide) ⟨_, rfl⟩ (gd_k hG (c := 2) rfl) (Nat.le_of_ble_eq_true rfl) rfl (op_lose hG hL (K := fun r1 r2 σ2 => r1 = r2 ∧ ro_L σ2) (fun r σ2 hl => ⟨rfl, hl⟩)) (fun r1 σ1 h1 => ?_)
  refine tn_aload_n (pc := 798) hΓ d_L_law_798 rfl ?_
  refine tn_aload_n (pc := 799) hΓ d_L_law_799 rfl ?_
  refine tn_iload_n (pc := 800) hΓ d_L_law_800 rfl ?_
  refine tn_iconst (pc := 801) hΓ d_L_law_801 ic_1 ?_
  refine tn_iadd (pc := 802) hΓ d_L_law_802 ?_
  refine tn_sld (pc := 803) hΓ hX d_L_law_803 (hv 1 _ (by decide) rfl) ?_
  refine tn_cvI (As := [.int (xs (i + (1 : Int32)).toNatClampNeg)]) (st := [.int r1]) (x := 39) (i := 6) (pc := 804) hΓ d_L_law_804 mv_X6_lose im_X6_lose se_X6_lose ml_7_103 ⟨⟨by decide, by decide⟩, (show ca + 0 ≤ 600000 by omega), (show sl + 0 ≤ 7302250 by omega)⟩ rfl rfl rfl (by decide) ⟨_, rfl⟩ (gd_k hG (c := 39) rfl) (Nat.le_of_ble_eq_true rfl) rfl h1 (fun r2 σ2 h2 => ?_)
  obtain ⟨rfl, hl⟩ := h2
  exact tn_icmp_eq (tgt := 1090) (pc := 807) hΓ d_L_law_807 (by decide) (fun _ => h _ _ _ _ _ (by omega) (by omega) hG hl) (fun hq => absurd rfl hq)
theorem lw_c21 {Γ : tn_G} {ks : List (Nat × Nat)} {ρ : Nat → Nat → Nat} {σ : Nat → Nat → Int32} {b L : Nat} {xs : Nat → Int32} {i : Int32} {ca sl : Nat} (hG : tn_Gd ks ρ) (hL : ro_L σ) (hΓ : tn_is Γ m_L_law) (hX : tn_sc Γ b L xs) (hv : ∀ (k : Nat) (x : Int32), k ≤ 5 → x = nI k → vp_in (i + x) L) (hca : ca ≤ 500000) (hsl : sl ≤ 5000000) (h : ∀ (ca' sl' : Nat) (ks' : List (Nat × Nat)) (ρ' : Nat → Nat → Nat) (σ' : Nat → Nat → Int32), ca' ≤ ca + 1 → sl' ≤ sl + 4 → tn_Gd ks' ρ' → ro_L σ' → tn_A Γ 1090 [.ref 1, .ref 2, .ref 39, .int i] [] ca' sl' ks' ρ' σ') : tn_A Γ 812 [.ref 1, .ref 2, .ref 39, .int i] [] ca sl ks ρ σ := by
  refine tn_aload_n (pc := 812) hΓ d_L_law_812 rfl ?_
  refine tn_aload_n (pc := 813) hΓ d_L_law_813 rfl ?_
  refine tn_iload_n (pc := 814) hΓ d_L_law_814 rfl ?_
  refine tn_iconst (pc := 815) hΓ d_L_law_815 ic_1 ?_
  refine tn_iadd (pc := 816) hΓ d_L_law_816 ?_
  refine tn_sld (pc := 817) hΓ hX d_L_law_817 (hv 1 _ (by decide) rfl) ?_
  refine tn_aload_n (pc := 818) hΓ d_L_law_818 rfl ?_
  refine tn_iload_n (pc := 819) hΓ d_L_law_819 rfl ?_
  refine tn_iconst (pc := 820) hΓ d_L_law_820 ic_2 ?_
  refine tn_iadd (pc := 821) hΓ d_L_law_821 ?_
  refine tn_sld (pc := 822) hΓ hX d_L_law_822 (hv 2 _ (by decide) rfl) ?_
  refine tn_aload_n (pc := 823) hΓ d_L_law_823 rfl ?_
  refine tn_iload_n (pc := 824) hΓ d_L_law_824 rfl ?_
  refine tn_iconst (pc := 825) hΓ d_L_law_825 ic_3 ?_
  refine tn_iadd (pc := 826) hΓ d_L_law_826 ?_
  refine tn_sld (pc := 827) hΓ hX d_L_law_827 (hv 3 _ (by decide) rfl) ?_
  refine tn_cvI (As := [.int (xs (i + (1 : Int32)).toNatClampNeg), .int (xs (i + (2 : Int32)).toNatClampNeg), .int (xs (i + (3 : Int32)).toNatClampNeg)]) (st := []) (x := 2) (i := 5) (pc := 828) hΓ d_L_law_828 mv_X5_put im_X5_put se_X5_put ml_7_104 ⟨⟨by decide, by decide⟩, (show ca + 0 ≤ 600000 by omega), (show sl + 0 ≤ 7302250 by omega)⟩ rfl rfl rfl (by decide) ⟨_, rfl⟩ (gd_k hG (c := 2) rfl) (Nat.le_of_ble_eq_true rfl) rfl (op_put hG hL (K := fun r1 r2 σ2 => r1 = r2 ∧ ro_L σ2) (fun r σ2 hl => ⟨rfl, hl⟩)) (fun r1 σ1 h1 => ?_)
  refine tn_aload_n (pc := 831) hΓ d_L_law_831 rfl ?_
  refine tn_aload_n (pc := 832) hΓ d_L_law_832 rfl ?_
  refine tn_iload_n (pc := 833) hΓ d_L_law_833 rfl ?_
  refine tn_iconst (pc := 834) hΓ d_L_law_834 ic_1 ?_
  refine tn_iadd (pc := 835) hΓ d_L_law_835 ?_
  refine tn_sld (pc := 836) hΓ hX d_L_law_836 (hv 1 _ (by decide) rfl) ?_
  refine tn_aload_n (pc := 837) hΓ d_L_law_837 rfl ?_
  refine tn_iload_n (pc := 838) hΓ d_L_law_838 rfl ?_
  refine tn_iconst (pc := 839) hΓ d_L_law_839 ic_2 ?_
  refine tn_iadd (pc := 840) hΓ d_L_law_840 ?_
  refine tn_sld (pc := 841) hΓ hX d_L_law_841 (hv 2 _ (by decide) rfl) ?_
  refine tn_aload_n (pc := 842) hΓ d_L_law_842 rfl ?_
  refine tn_iload_n (pc := 843) hΓ d_L_law_843 rfl ?_
  refine tn_iconst (pc := 844) hΓ d_L_law_844 ic_3 ?_
  refine tn_iadd (pc := 845) hΓ d_L_law_845 ?_
  refine tn_sld (pc := 846) hΓ hX d_L_law_846 (hv 3 _ (by decide) rfl) ?_
  refine tn_cvI (As := [.int (xs (i + (1 : Int32)).toNatClampNeg), .int (xs (i + (2 : Int32)).toNatClampNeg), .int (xs (i + (3 : Int32)).toNatClampNeg)]) (st := [.int r1]) (x := 39) (i := 6) (pc := 847) hΓ d_L_law_847 mv_X6_put im_X6_put se_X6_put ml_7_107 ⟨⟨by decide, by decide⟩, (show ca + 0 ≤ 600000 by omega), (show sl + 0 ≤ 7302250 by omega)⟩ rfl rfl rfl (by decide) ⟨_, rfl⟩ (gd_k hG (c := 39) rfl) (Nat.le_of_ble_eq_true rfl) rfl h1 (fun r2 σ2 h2 => ?_)
  obtain ⟨rfl, hl⟩ := h2
  exact tn_icmp_eq (tgt := 1090) (pc := 850) hΓ d_L_law_850 (by decide) (fun _ => h _ _ _ _ _ (by omega) (by omega) hG hl) (fun hq => absurd rfl hq)
theorem lw_c22 {Γ : tn_G} {ks : List (Nat × Nat)} {ρ : Nat → Nat → Nat} {σ : Nat → Nat → Int32} {b L : Nat} {xs : Nat → Int32} {i : Int32} {ca sl : Nat} (hG : tn_Gd ks ρ) (hL : ro_L σ) (hΓ : tn_is Γ m_L_law) (hX : tn_sc Γ b L xs) (hv : ∀ (k : Nat) (x : Int32), k ≤ 5 → x = nI k → vp_in (i + x) L) (hca : ca ≤ 500000) (hsl : sl ≤ 5000000) (h : ∀ (ca' sl' : Nat) (ks' : List (Nat × Nat)) (ρ' : Nat → Nat → Nat) (σ' : Nat → Nat → Int32), ca' ≤ ca + 1 → sl' ≤ sl + 4 → tn_Gd ks' ρ' → ro_L σ' → tn_A Γ 1090 [.ref 1, .ref 2, .ref 39, .int i] [] ca' sl' ks' ρ' σ') : tn_A Γ 855 [.ref 1, .ref 2, .ref 39, .int i] [] ca sl ks ρ σ := by
  refine tn_aload_n (pc := 855) hΓ d_L_law_855 rfl ?_
  refine tn_aload_n (pc := 856) hΓ d_L_law_856 rfl ?_
  refine tn_iload_n (pc := 857) hΓ d_L_law_857 rfl ?_
  refine tn_iconst (pc := 858) hΓ d_L_law_858 ic_1 ?_
  refine tn_iadd (pc := 859) hΓ d_L_law_859 ?_
  refine tn_sld (pc := 860) hΓ hX d_L_law_860 (hv 1 _ (by decide) rfl) ?_
  refine tn_aload_n (pc := 861) hΓ d_L_law_861 rfl ?_
  refine tn_iload_n (pc := 862) hΓ d_L_law_862 rfl ?_
  refine tn_iconst (pc := 863) hΓ d_L_law_863 ic_2 ?_
  refine tn_iadd (pc := 864) hΓ d_L_law_864 ?_
  refine tn_sld (pc := 865) hΓ hX d_L_law_865 (hv 2 _ (by decide) rfl) ?_
  refine tn_aload_n (pc := 866) hΓ d_L_law_866 rfl ?_
  refine tn_iload_n (pc := 867) hΓ d_L_law_867 rfl ?_
  refine tn_iconst (pc := 868) hΓ d_L_law_868 ic_3 ?_
  refine tn_iadd (pc := 869) hΓ d_L_law_869 ?_
  refine tn_sld (pc := 870) hΓ hX d_L_law_870 (hv 3 _ (by decide) rfl) ?_
  refine tn_cvL (As := [.int (xs (i + (1 : Int32)).toNatClampNeg), .int (xs (i + (2 : Int32)).toNatClampNeg), .int (xs (i + (3 : Int32)).toNatClampNeg)]) (st := []) (x := 2) (i := 5) (pc := 871) hΓ d_L_law_871 mv_X5_cell im_X5_cell se_X5_cell ml_7_108 ⟨⟨by decide, by decide⟩, (show ca + 0 ≤ 600000 by omega), (show sl + 0 ≤ 7302250 by omega)⟩ rfl rfl rfl (by decide) ⟨_, rfl⟩ (gd_k hG (c := 2) rfl) (Nat.le_of_ble_eq_true rfl) rfl (op_cell hG hL (K := fun r1 r2 σ2 => r1 = r2 ∧ ro_L σ2) (fun r σ2 hl => ⟨rfl, hl⟩)) (fun r1 σ1 h1 => ?_)
  refine tn_aload_n (pc := 874) hΓ d_L_law_874 rfl ?_
  refine tn_aload_n (pc := 875) hΓ d_L_law_875 rfl ?_
  refine tn_iload_n (pc := 876) hΓ d_L_law_876 rfl ?_
  refine tn_iconst (pc := 877) hΓ d_L_law_877 ic_1 ?_
  refine tn_iadd (pc := 878) hΓ d_L_law_878 ?_
  refine tn_sld (pc := 879) hΓ hX d_L_law_879 (hv 1 _ (by decide) rfl) ?_
  refine tn_aload_n (pc := 880) hΓ d_L_law_880 rfl ?_
  refine tn_iload_n (pc := 881) hΓ d_L_law_881 rfl ?_
  refine tn_iconst (pc := 882) hΓ d_L_law_882 ic_2 ?_
  refine tn_iadd (pc := 883) hΓ d_L_law_883 ?_
  refine tn_sld (pc := 884) hΓ hX d_L_law_884 (hv 2 _ (by decide) rfl) ?_
  refine tn_aload_n (pc := 885) hΓ d_L_law_885 rfl ?_
  refine tn_iload_n (pc := 886) hΓ d_L_law_886 rfl ?_
  refine tn_iconst (pc := 887) hΓ d_L_law_887 ic_3 ?_
  refine tn_iadd (pc := 888) hΓ d_L_law_888 ?_
  refine tn_sld (pc := 889) hΓ hX d_L_law_889 (hv 3 _ (by decide) rfl) ?_
  refine tn_cvL (As := [.int (xs (i + (1 : Int32)).toNatClampNeg), .int (xs (i + (2 : Int32)).toNatClampNeg), .int (xs (i + (3 : Int32)).toNatClampNeg)]) (st := [.long r1]) (x := 39) (i := 6) (pc := 890) hΓ d_L_law_890 mv_X6_cell im_X6_cell se_X6_cell ml_7_112 ⟨⟨by decide, by decide⟩, (show ca + 0 ≤ 600000 by omega), (show sl + 0 ≤ 7302250 by omega)⟩ rfl rfl rfl (by decide) ⟨_, rfl⟩ (gd_k hG (c := 39) rfl) (Nat.le_of_ble_eq_true rfl) rfl h1 (fun r2 σ2 h2 => ?_)
  obtain ⟨rfl, hl⟩ := h2
  refine tn_lcmp (pc := 893) hΓ d_L_law_893 ?_
  exact tn_if_eq (tgt := 1090) (pc := 894) hΓ d_L_law_894 (by decide) (fun _ => h _ _ _ _ _ (by omega) (by omega) hG hl) (fun hq => absurd (lg_rr _) hq)
theorem lw_c23 {Γ : tn_G} {ks : List (Nat × Nat)} {ρ : Nat → Nat → Nat} {σ : Nat → Nat → Int32} {b L : Nat} {xs : Nat → Int32} {i : Int32} {ca sl : Nat} (hG : tn_Gd ks ρ) (hL : ro_L σ) (hΓ : tn_is Γ m_L_law) (hX : tn_sc Γ b L xs) (hv : ∀ (k : Nat) (x : Int32), k ≤ 5 → x = nI k → vp_in (i + x) L) (hca : ca ≤ 500000) (hsl : sl ≤ 5000000) (h : ∀ (ca' sl' : Nat) (ks' : List (Nat × Nat)) (ρ' : Nat → Nat → Nat) (σ' : Nat → Nat → Int32), ca' ≤ ca + 1 → sl' ≤ sl + 4 → tn_Gd ks' ρ' → ro_L σ' → tn_A Γ 1090 [.ref 1, .ref 2, .ref 39, .int i] [] ca' sl' ks' ρ' σ') : tn_A Γ 899 [.ref 1, .ref 2, .ref 39, .int i] [] ca sl ks ρ σ := by
  refine tn_aload_n (pc := 899) hΓ d_L_law_899 rfl ?_
  refine tn_aload_n (pc := 900) hΓ d_L_law_900 rfl ?_
  refine tn_iload_n (pc := 901) hΓ d_L_law_901 rfl ?_
  refine tn_iconst (pc := 902) hΓ d_L_law_902 ic_1 ?_
  refine tn_iadd (pc := 903) hΓ d_L_law_903 ?_
  refine tn_sld (pc := 904) hΓ hX d_L_law_904 (hv 1 _ (by decide) rfl) ?_
  refine tn_aload_n (pc := 905) hΓ d_L_law_905 rfl ?_
  refine tn_iload_n (pc := 906) hΓ d_L_law_906 rfl ?_
  refine tn_iconst (pc := 907) hΓ d_L_law_907 ic_2 ?_
  refine tn_iadd (pc := 908) hΓ d_L_law_908 ?_
  refine tn_sld (pc := 909) hΓ hX d_L_law_909 (hv 2 _ (by decide) rfl) ?_
  refine tn_aload_n (pc := 910) hΓ d_L_law_910 rfl ?_
  refine tn_iload_n (pc := 911) hΓ d_L_law_911 rfl ?_
  refine tn_iconst (pc := 912) hΓ d_L_law_912 ic_3 ?_
  refine tn_iadd (pc := 913) hΓ d_L_law_913 ?_
  refine tn_sld (pc := 914) hΓ hX d_L_law_914 (hv 3 _ (by decide) rfl) ?_
  refine tn_aload_n (pc := 915) hΓ d_L_law_915 rfl ?_
  refine tn_iload_n (pc := 916) hΓ d_L_law_916 rfl ?_
  refine tn_iconst (pc := 917) hΓ d_L_law_917 ic_4 ?_
  refine tn_iadd (pc := 918) hΓ d_L_law_918 ?_
  refine tn_sld (pc := 919) hΓ hX d_L_law_919 (hv 4 _ (by decide) rfl) ?_
  refine tn_aload_n (pc := 920) hΓ d_L_law_920 rfl ?_
  refine tn_iload_n (pc := 921) hΓ d_L_law_921 rfl ?_
  refine tn_iconst (pc := 922) hΓ d_L_law_922 ic_5 ?_
  refine tn_iadd (pc := 923) hΓ d_L_law_923 ?_
  refine tn_sld (pc := 924) hΓ hX d_L_law_924 (hv 5 _ (by decide) rfl) ?_
  refine tn_cvI (As := [.int (xs (i + (1 : Int32)).toNatClampNeg), .int (xs (i + (2 : Int32)).toNatClampNeg), .int (xs (i + (3 : Int32)).toNatClampNeg), .int (xs (i + (4 : Int32)).toNatClampNeg), .int (xs (i + (5 : Int32)).toNatClampNeg)]) (st := []) (x := 2) (i := 5) (pc := 925) hΓ d_L_law_925 mv_X5_copy im_X5_copy se_X5_copy ml_7_113 ⟨⟨by decide, by decide⟩, (show ca + 0 ≤ 600000 by omega), (show sl + 0 ≤ 7302250 by omega)⟩ rfl rfl rfl (by decide) ⟨_, rfl⟩ (gd_k hG (c := 2) rfl) (Nat.le_of_ble_eq_true rfl) rfl (op_copy hG hL (K := fun r1 r2 σ2 => r1 = r2 ∧ ro_L σ2) (fun r σ2 hl => ⟨rfl, hl⟩)) (fun r1 σ1 h1 => ?_)
  refine tn_aload_n (pc := 928) hΓ d_L_law_928 rfl ?_
  refine tn_aload_n (pc := 929) hΓ d_L_law_929 rfl ?_
  refine tn_iload_n (pc := 930) hΓ d_L_law_930 rfl ?_
  refine tn_iconst (pc := 931) hΓ d_L_law_931 ic_1 ?_
  refine tn_iadd (pc := 932) hΓ d_L_law_932 ?_
  refine tn_sld (pc := 933) hΓ hX d_L_law_933 (hv 1 _ (by decide) rfl) ?_
  refine tn_aload_n (pc := 934) hΓ d_L_law_934 rfl ?_
  refine tn_iload_n (pc := 935) hΓ d_L_law_935 rfl ?_
  refine tn_iconst (pc := 936) hΓ d_L_law_936 ic_2 ?_
  refine tn_iadd (pc := 937) hΓ d_L_law_937 ?_
  refine tn_sld (pc := 938) hΓ hX d_L_law_938 (hv 2 _ (by decide) rfl) ?_
  refine tn_aload_n (pc := 939) hΓ d_L_law_939 rfl ?_
  refine tn_iload_n (pc := 940) hΓ d_L_law_940 rfl ?_
  refine tn_iconst (pc := 941) hΓ d_L_law_941 ic_3 ?_
  refine tn_iadd (pc := 942) hΓ d_L_law_942 ?_
  refine tn_sld (pc := 943) hΓ hX d_L_law_943 (hv 3 _ (by decide) rfl) ?_
  refine tn_aload_n (pc := 944) hΓ d_L_law_944 rfl ?_
  refine tn_iload_n (pc := 945) hΓ d_L_law_945 rfl ?_
  refine tn_iconst (pc := 946) hΓ d_L_law_946 ic_4 ?_
  refine tn_iadd (pc := 947) hΓ d_L_law_947 ?_
  refine tn_sld (pc := 948) hΓ hX d_L_law_948 (hv 4 _ (by decide) rfl) ?_
  refine tn_aload_n (pc := 949) hΓ d_L_law_949 rfl ?_
  refine tn_iload_n (pc := 950) hΓ d_L_law_950 rfl ?_
  refine tn_iconst (pc := 951) hΓ d_L_law_951 ic_5 ?_
  refine tn_iadd (pc := 952) hΓ d_L_law_952 ?_
  refine tn_sld (pc := 953) hΓ hX d_L_law_953 (hv 5 _ (by decide) rfl) ?_
  refine tn_cvI (As := [.int (xs (i + (1 : Int32)).toNatClampNeg), .int (xs (i + (2 : Int32)).toNatClampNeg), .int (xs (i + (3 : Int32)).toNatClampNeg), .int (xs (i + (4 : Int32)).toNatClampNeg), .int (xs (i + (5 : Int32)).toNatClampNeg)]) (st := [.int r1]) (x := 39) (i := 6) (pc := 954) hΓ d_L_law_954 mv_X6_copy im_X6_copy se_X6_copy ml_7_116 ⟨⟨by decide, by decide⟩, (show ca + 0 ≤ 600000 by omega), (show sl + 0 ≤ 7302250 by omega)⟩ rfl rfl rfl (by decide) ⟨_, rfl⟩ (gd_k hG (c := 39) rfl) (Nat.le_of_ble_eq_true rfl) rfl h1 (fun r2 σ2 h2 => ?_)
  obtain ⟨rfl, hl⟩ := h2
  exact tn_icmp_eq (tgt := 1090) (pc := 957) hΓ d_L_law_957 (by decide) (fun _ => h _ _ _ _ _ (by omega) (by omega) hG hl) (fun hq => absurd rfl hq)
theorem lw_c24 {Γ : tn_G} {ks : List (Nat × Nat)} {ρ : Nat → Nat → Nat} {σ : Nat → Nat → Int32} {b L : Nat} {xs : Nat → Int32} {i : Int32} {ca sl : Nat} (hG : tn_Gd ks ρ) (hL : ro_L σ) (hΓ : tn_is Γ m_L_law) (hX : tn_sc Γ b L xs) (hv : ∀ (k : Nat) (x : Int32), k ≤ 5 → x = nI k → vp_in (i + x) L) (hca : ca ≤ 500000) (hsl : sl ≤ 5000000) (h : ∀ (ca' sl' : Nat) (ks' : List (Nat × Nat)) (ρ' : Nat → Nat → Nat) (σ' : Nat → Nat → Int32), ca' ≤ ca + 1 → sl' ≤ sl + 4 → tn_Gd ks' ρ' → ro_L σ' → tn_A Γ 1090 [.ref 1, .ref 2, .ref 39, .int i] [] ca' sl' ks' ρ' σ') : tn_A Γ 962 [.ref 1, .ref 2, .ref 39, .int i] [] ca sl ks ρ σ := by
  refine tn_aload_n (pc := 962) hΓ d_L_law_962 rfl ?_
  refine tn_aload_n (pc := 963) hΓ d_L_law_963 rfl ?_
  refine tn_iload_n (pc := 964) hΓ d_L_law_964 rfl ?_
  refine tn_iconst (pc := 965) hΓ d_L_law_965 ic_1 ?_
  refine tn_iadd (pc := 966) hΓ d_L_law_966 ?_
  refine tn_sld (pc := 967) hΓ hX d_L_law_967 (hv 1 _ (by decide) rfl) ?_
  refine tn_cvI (As := [.int (xs (i + (1 : Int32)).toNatClampNeg)]) (st := []) (x := 2) (i := 5) (pc := 968) hΓ d_L_law_968 mv_X5_tell im_X5_tell se_X5_tell ml_7_117 ⟨⟨by decide, by decide⟩, (show ca + 0 ≤ 600000 by omega), (show sl + 0 ≤ 7302250 by omega)⟩ rfl rfl rfl (by decide) ⟨_, rfl⟩ (gd_k hG (c := 2) rfl) (Nat.le_of_ble_eq_true rfl) rfl (op_tell hG hL (K := fun r1 r2 σ2 => r1 = r2 ∧ ro_L σ2) (fun r σ2 hl => ⟨rfl, hl⟩)) (fun r1 σ1 h1 => ?_)
  refine tn_aload_n (pc := 971) hΓ d_L_law_971 rfl ?_
  refine tn_aload_n (pc := 972) hΓ d_L_law_972 rfl ?_
  refine tn_iload_n (pc := 973) hΓ d_L_law_973 rfl ?_
  refine tn_iconst (pc := 974) hΓ d_L_law_974 ic_1 ?_
  refine tn_iadd (pc := 975) hΓ d_L_law_975 ?_
  refine tn_sld (pc := 976) hΓ hX d_L_law_976 (hv 1 _ (by decide) rfl) ?_
  refine tn_cvI (As := [.int (xs (i + (1 : Int32)).toNatClampNeg)]) (st := [.int r1]) (x := 39) (i := 6) (pc := 977) hΓ d_L_law_977 mv_X6_tell im_X6_tell se_X6_tell ml_7_120 ⟨⟨by decide, by decide⟩, (show ca + 0 ≤ 600000 by omega), (show sl + 0 ≤ 7302250 by omega)⟩ rfl rfl rfl (by decide) ⟨_, rfl⟩ (gd_k hG (c := 39) rfl) (Nat.le_of_ble_eq_true rfl) rfl h1 (fun r2 σ2 h2 => ?_)
  obtain ⟨rfl, hl⟩ := h2
  exact tn_icmp_eq (tgt := 1090) (pc := 980) hΓ d_L_law_980 (by decide) (fun _ => h _ _ _ _ _ (by omega) (by omega) hG hl) (fun hq => absurd rfl hq)
theorem lw_c25 {Γ : tn_G} {ks : List (Nat × Nat)} {ρ : Nat → Nat → Nat} {σ : Nat → Nat → Int32} {b L : Nat} {xs : Nat → Int32} {i : Int32} {ca sl : Nat} (hG : tn_Gd ks ρ) (hL : ro_L σ) (hΓ : tn_is Γ m_L_law) (hX : tn_sc Γ b L xs) (hv : ∀ (k : Nat) (x : Int32), k ≤ 5 → x = nI k → vp_in (i + x) L) (hca : ca ≤ 500000) (hsl : sl ≤ 5000000) (h : ∀ (ca' sl' : Nat) (ks' : List (Nat × Nat)) (ρ' : Nat → Nat → Nat) (σ' : Nat → Nat → Int32), ca' ≤ ca + 1 → sl' ≤ sl + 4 → tn_Gd ks' ρ' → ro_L σ' → tn_A Γ 1090 [.ref 1, .ref 2, .ref 39, .int i] [] ca' sl' ks' ρ' σ') : tn_A Γ 985 [.ref 1, .ref 2, .ref 39, .int i] [] ca sl ks ρ σ := by
  refine tn_aload_n (pc := 985) hΓ d_L_law_985 rfl ?_
  refine tn_aload_n (pc := 986) hΓ d_L_law_986 rfl ?_
  refine tn_iload_n (pc := 987) hΓ d_L_law_987 rfl ?_
  refine tn_iconst (pc := 988) hΓ d_L_law_988 ic_1 ?_
  refine tn_iadd (pc := 989) hΓ d_L_law_989 ?_
  refine tn_sld (pc := 990) hΓ hX d_L_law_990 (hv 1 _ (by decide) rfl) ?_
  refine tn_cvI (As := [.int (xs (i + (1 : Int32)).toNatClampNeg)]) (st := []) (x := 2) (i := 5) (pc := 991) hΓ d_L_law_991 mv_X5_knock im_X5_knock se_X5_knock ml_7_121 ⟨⟨by decide, by decide⟩, (show ca + 0 ≤ 600000 by omega), (show sl + 0 ≤ 7302250 by omega)⟩ rfl rfl rfl (by decide) ⟨_, rfl⟩ (gd_k hG (c := 2) rfl) (Nat.le_of_ble_eq_true rfl) rfl (op_knock hG hL (K := fun r1 r2 σ2 => r1 = r2 ∧ ro_L σ2) (fun r σ2 hl => ⟨rfl, hl⟩)) (fun r1 σ1 h1 => ?_)
  refine tn_aload_n (pc := 994) hΓ d_L_law_994 rfl ?_
  refine tn_aload_n (pc := 995) hΓ d_L_law_995 rfl ?_
  refine tn_iload_n (pc := 996) hΓ d_L_law_996 rfl ?_
  refine tn_iconst (pc := 997) hΓ d_L_law_997 ic_1 ?_
  refine tn_iadd (pc := 998) hΓ d_L_law_998 ?_
  refine tn_sld (pc := 999) hΓ hX d_L_law_999 (hv 1 _ (by decide) rfl) ?_
  refine tn_cvI (As := [.int (xs (i + (1 : Int32)).toNatClampNeg)]) (st := [.int r1]) (x := 39) (i := 6) (pc := 1000) hΓ d_L_law_1000 mv_X6_knock im_X6_knock se_X6_knock ml_7_124 ⟨⟨by decide, by decide⟩, (show ca + 0 ≤ 600000 by omega), (show sl + 0 ≤ 7302250 by omega)⟩ rfl rfl rfl (by decide) ⟨_, rfl⟩ (gd_k hG (c := 39) rfl) (Nat.le_of_ble_eq_true rfl) rfl h1 (fun r2 σ2 h2 => ?_)
  obtain ⟨rfl, hl⟩ := h2
  exact tn_icmp_eq (tgt := 1090) (pc := 1003) hΓ d_L_law_1003 (by decide) (fun _ => h _ _ _ _ _ (by omega) (by omega) hG hl) (fun hq => absurd rfl hq)
theorem lw_c26 {Γ : tn_G} {ks : List (Nat × Nat)} {ρ : Nat → Nat → Nat} {σ : Nat → Nat → Int32} {b L : Nat} {xs : Nat → Int32} {i : Int32} {ca sl : Nat} (hG : tn_Gd ks ρ) (hL : ro_L σ) (hΓ : tn_is Γ m_L_law) (hX : tn_sc Γ b L xs) (hv : ∀ (k : Nat) (x : Int32), k ≤ 5 → x = nI k → vp_in (i + x) L) (hca : ca ≤ 500000) (hsl : sl ≤ 5000000) (h : ∀ (ca' sl' : Nat) (ks' : List (Nat × Nat)) (ρ' : Nat → Nat → Nat) (σ' : Nat → Nat → Int32), ca' ≤ ca + 1 → sl' ≤ sl + 4 → tn_Gd ks' ρ' → ro_L σ' → tn_A Γ 1090 [.ref 1, .ref 2, .ref 39, .int i] [] ca' sl' ks' ρ' σ') : tn_A Γ 1008 [.ref 1, .ref 2, .ref 39, .int i] [] ca sl ks ρ σ := by
  refine tn_aload_n (pc := 1008) hΓ d_L_law_1008 rfl ?_
  refine tn_aload_n (pc := 1009) hΓ d_L_law_1009 rfl ?_
  refine tn_iload_n (pc := 1010) hΓ d_L_law_1010 rfl ?_
  refine tn_iconst (pc := 1011) hΓ d_L_law_1011 ic_1 ?_
  refine tn_iadd (pc := 1012) hΓ d_L_law_1012 ?_
  refine tn_sld (pc := 1013) hΓ hX d_L_law_1013 (hv 1 _ (by decide) rfl) ?_
  refine tn_aload_n (pc := 1014) hΓ d_L_law_1014 rfl ?_
  refine tn_iload_n (pc := 1015) hΓ d_L_law_1015 rfl ?_
  refine tn_iconst (pc := 1016) hΓ d_L_law_1016 ic_2 ?_
  refine tn_iadd (pc := 1017) hΓ d_L_law_1017 ?_
  refine tn_sld (pc := 1018) hΓ hX d_L_law_1018 (hv 2 _ (by decide) rfl) ?_
  refine tn_cvI (As := [.int (xs (i + (1 : Int32)).toNatClampNeg), .int (xs (i + (2 : Int32)).toNatClampNeg)]) (st := []) (x := 2) (i := 5) (pc := 1019) hΓ d_L_law_1019 mv_X5_as im_X5_as se_X5_as ml_7_125 ⟨⟨by decide, by decide⟩, (show ca + 0 ≤ 600000 by omega), (show sl + 0 ≤ 7302250 by omega)⟩ rfl rfl rfl (by decide) ⟨_, rfl⟩ (gd_k hG (c := 2) rfl) (Nat.le_of_ble_eq_true rfl) rfl (op_as hG hL (K := fun r1 r2 σ2 => r1 = r2 ∧ ro_L σ2) (fun r σ2 hl => ⟨rfl, hl⟩)) (fun r1 σ1 h1 => ?_)
  refine tn_aload_n (pc := 1022) hΓ d_L_law_1022 rfl ?_
  refine tn_aload_n (pc := 1023) hΓ d_L_law_1023 rfl ?_
  refine tn_iload_n (pc := 1024) hΓ d_L_law_1024 rfl ?_
  refine tn_iconst (pc := 1025) hΓ d_L_law_1025 ic_1 ?_
  refine tn_iadd (pc := 1026) hΓ d_L_law_1026 ?_
  refine tn_sld (pc := 1027) hΓ hX d_L_law_1027 (hv 1 _ (by decide) rfl) ?_
  refine tn_aload_n (pc := 1028) hΓ d_L_law_1028 rfl ?_
  refine tn_iload_n (pc := 1029) hΓ d_L_law_1029 rfl ?_
  refine tn_iconst (pc := 1030) hΓ d_L_law_1030 ic_2 ?_
  refine tn_iadd (pc := 1031) hΓ d_L_law_1031 ?_
  refine tn_sld (pc := 1032) hΓ hX d_L_law_1032 (hv 2 _ (by decide) rfl) ?_
  refine tn_cvI (As := [.int (xs (i + (1 : Int32)).toNatClampNeg), .int (xs (i + (2 : Int32)).toNatClampNeg)]) (st := [.int r1]) (x := 39) (i := 6) (pc := 1033) hΓ d_L_law_1033 mv_X6_as im_X6_as se_X6_as ml_7_128 ⟨⟨by decide, by decide⟩, (show ca + 0 ≤ 600000 by omega), (show sl + 0 ≤ 7302250 by omega)⟩ rfl rfl rfl (by decide) ⟨_, rfl⟩ (gd_k hG (c := 39) rfl) (Nat.le_of_ble_eq_true rfl) rfl h1 (fun r2 σ2 h2 => ?_)
  obtain ⟨rfl, hl⟩ := h2
  exact tn_icmp_eq (tgt := 1090) (pc := 1036) hΓ d_L_law_1036 (by decide) (fun _ => h _ _ _ _ _ (by omega) (by omega) hG hl) (fun hq => absurd rfl hq)
theorem lw_c27 {Γ : tn_G} {ks : List (Nat × Nat)} {ρ : Nat → Nat → Nat} {σ : Nat → Nat → Int32} {b L : Nat} {xs : Nat → Int32} {i : Int32} {ca sl : Nat} (hG : tn_Gd ks ρ) (hL : ro_L σ) (hΓ : tn_is Γ m_L_law) (hX : tn_sc Γ b L xs) (hv : ∀ (k : Nat) (x : Int32), k ≤ 5 → x = nI k → vp_in (i + x) L) (hca : ca ≤ 500000) (hsl : sl ≤ 5000000) (h : ∀ (ca' sl' : Nat) (ks' : List (Nat × Nat)) (ρ' : Nat → Nat → Nat) (σ' : Nat → Nat → Int32), ca' ≤ ca + 1 → sl' ≤ sl + 4 → tn_Gd ks' ρ' → ro_L σ' → tn_A Γ 1090 [.ref 1, .ref 2, .ref 39, .int i] [] ca' sl' ks' ρ' σ') : tn_A Γ 1041 [.ref 1, .ref 2, .ref 39, .int i] [] ca sl ks ρ σ := by
  refine tn_aload_n (pc := 1041) hΓ d_L_law_1041 rfl ?_
  refine tn_cvI (As := []) (st := []) (x := 2) (i := 5) (pc := 1042) hΓ d_L_law_1042 mv_X5_trace im_X5_trace se_X5_trace ml_7_129 ⟨⟨by decide, by decide⟩, (show ca + 0 ≤ 600000 by omega), (show sl + 0 ≤ 7302250 by omega)⟩ rfl rfl rfl (by decide) ⟨_, rfl⟩ (gd_k hG (c := 2) rfl) (Nat.le_of_ble_eq_true rfl) rfl (op_trace hG hL (K := fun r1 r2 σ2 => r1 = r2 ∧ ro_L σ2) (fun r σ2 hl => ⟨rfl, hl⟩)) (fun r1 σ1 h1 => ?_)
  refine tn_aload_n (pc := 1045) hΓ d_L_law_1045 rfl ?_
  refine tn_cvI (As := []) (st := [.int r1]) (x := 39) (i := 6) (pc := 1046) hΓ d_L_law_1046 mv_X6_trace im_X6_trace se_X6_trace ml_7_132 ⟨⟨by decide, by decide⟩, (show ca + 0 ≤ 600000 by omega), (show sl + 0 ≤ 7302250 by omega)⟩ rfl rfl rfl (by decide) ⟨_, rfl⟩ (gd_k hG (c := 39) rfl) (Nat.le_of_ble_eq_true rfl) rfl h1 (fun r2 σ2 h2 => ?_)
  obtain ⟨rfl, hl⟩ := h2
  exact tn_icmp_eq (tgt := 1090) (pc := 1049) hΓ d_L_law_1049 (by decide) (fun _ => h _ _ _ _ _ (by omega) (by omega) hG hl) (fun hq => absurd rfl hq)
theorem lw_c28 {Γ : tn_G} {ks : List (Nat × Nat)} {ρ : Nat → Nat → Nat} {σ : Nat → Nat → Int32} {b L : Nat} {xs : Nat → Int32} {i : Int32} {ca sl : Nat} (hG : tn_Gd ks ρ) (hL : ro_L σ) (hΓ : tn_is Γ m_L_law) (hX : tn_sc Γ b L xs) (hv : ∀ (k : Nat) (x : Int32), k ≤ 5 → x = nI k → vp_in (i + x) L) (hca : ca ≤ 500000) (hsl : sl ≤ 5000000) (h : ∀ (ca' sl' : Nat) (ks' : List (Nat × Nat)) (ρ' : Nat → Nat → Nat) (σ' : Nat → Nat → Int32), ca' ≤ ca + 1 → sl' ≤ sl + 4 → tn_Gd ks' ρ' → ro_L σ' → tn_A Γ 1090 [.ref 1, .ref 2, .ref 39, .int i] [] ca' sl' ks' ρ' σ') : tn_A Γ 1054 [.ref 1, .ref 2, .ref 39, .int i] [] ca sl ks ρ σ := by
  refine tn_aload_n (pc := 1054) hΓ d_L_law_1054 rfl ?_
  refine tn_cvI (As := []) (st := []) (x := 2) (i := 5) (pc := 1055) hΓ d_L_law_1055 mv_X5_fault im_X5_fault se_X5_fault ml_7_133 ⟨⟨by decide, by decide⟩, (show ca + 0 ≤ 600000 by omega), (show sl + 0 ≤ 7302250 by omega)⟩ rfl rfl rfl (by decide) ⟨_, rfl⟩ (gd_k hG (c := 2) rfl) (Nat.le_of_ble_eq_true rfl) rfl (op_fault hG hL (K := fun r1 r2 σ2 => r1 = r2 ∧ ro_L σ2) (fun r σ2 hl => ⟨rfl, hl⟩)) (fun r1 σ1 h1 => ?_)
  refine tn_aload_n (pc := 1058) hΓ d_L_law_1058 rfl ?_
  refine tn_cvI (As := []) (st := [.int r1]) (x := 39) (i := 6) (pc := 1059) hΓ d_L_law_1059 mv_X6_fault im_X6_fault se_X6_fault ml_7_136 ⟨⟨by decide, by decide⟩, (show ca + 0 ≤ 600000 by omega), (show sl + 0 ≤ 7302250 by omega)⟩ rfl rfl rfl (by decide) ⟨_, rfl⟩ (gd_k hG (c := 39) rfl) (Nat.le_of_ble_eq_true rfl) rfl h1 (fun r2 σ2 h2 => ?_)
  obtain ⟨rfl, hl⟩ := h2
  exact tn_icmp_eq (tgt := 1090) (pc := 1062) hΓ d_L_law_1062 (by decide) (fun _ => h _ _ _ _ _ (by omega) (by omega) hG hl) (fun hq => absurd rfl hq)
theorem lw_c29 {Γ : tn_G} {ks : List (Nat × Nat)} {ρ : Nat → Nat → Nat} {σ : Nat → Nat → Int32} {b L : Nat} {xs : Nat → Int32} {i : Int32} {ca sl : Nat} (hG : tn_Gd ks ρ) (hL : ro_L σ) (hΓ : tn_is Γ m_L_law) (hX : tn_sc Γ b L xs) (hv : ∀ (k : Nat) (x : Int32), k ≤ 5 → x = nI k → vp_in (i + x) L) (hca : ca ≤ 500000) (hsl : sl ≤ 5000000) (h : ∀ (ca' sl' : Nat) (ks' : List (Nat × Nat)) (ρ' : Nat → Nat → Nat) (σ' : Nat → Nat → Int32), ca' ≤ ca + 1 → sl' ≤ sl + 4 → tn_Gd ks' ρ' → ro_L σ' → tn_A Γ 1090 [.ref 1, .ref 2, .ref 39, .int i] [] ca' sl' ks' ρ' σ') : tn_A Γ 1067 [.ref 1, .ref 2, .ref 39, .int i] [] ca sl ks ρ σ := by
  refine tn_aload_n (pc := 1067) hΓ d_L_law_1067 rfl ?_
  refine tn_aload_n (pc := 1068) hΓ d_L_law_1068 rfl ?_
  refine tn_iload_n (pc := 1069) hΓ d_L_law_1069 rfl ?_
  refine tn_iconst (pc := 1070) hΓ d_L_law_1070 ic_1 ?_
  refine tn_iadd (pc := 1071) hΓ d_L_law_1071 ?_
  refine tn_sld (pc := 1072) hΓ hX d_L_law_1072 (hv 1 _ (by decide) rfl) ?_
  refine tn_cvI (As := [.int (xs (i + (1 : Int32)).toNatClampNeg)]) (st := []) (x := 2) (i := 5) (pc := 1073) hΓ d_L_law_1073 mv_X5_many im_X5_many se_X5_many ml_7_137 ⟨⟨by decide, by decide⟩, (show ca + 0 ≤ 600000 by omega), (show sl + 0 ≤ 7302250 by omega)⟩ rfl rfl rfl (by decide) ⟨_, rfl⟩ (gd_k hG (c := 2) rfl) (Nat.le_of_ble_eq_true rfl) rfl (op_many hG hL (K := fun r1 r2 σ2 => r1 = r2 ∧ ro_L σ2) (fun r σ2 hl => ⟨rfl, hl⟩)) (fun r1 σ1 h1 => ?_)
  refine tn_aload_n (pc := 1076) hΓ d_L_law_1076 rfl ?_
  refine tn_aload_n (pc := 1077) hΓ d_L_law_1077 rfl ?_
  refine tn_iload_n (pc := 1078) hΓ d_L_law_1078 rfl ?_
  refine tn_iconst (pc := 1079) hΓ d_L_law_1079 ic_1 ?_
  refine tn_iadd (pc := 1080) hΓ d_L_law_1080 ?_
  refine tn_sld (pc := 1081) hΓ hX d_L_law_1081 (hv 1 _ (by decide) rfl) ?_
  refine tn_cvI (As := [.int (xs (i + (1 : Int32)).toNatClampNeg)]) (st := [.int r1]) (x := 39) (i := 6) (pc := 1082) hΓ d_L_law_1082 mv_X6_many im_X6_many se_X6_many ml_7_140 ⟨⟨by decide, by decide⟩, (show ca + 0 ≤ 600000 by omega), (show sl + 0 ≤ 7302250 by omega)⟩ rfl rfl rfl (by decide) ⟨_, rfl⟩ (gd_k hG (c := 39) rfl) (Nat.le_of_ble_eq_true rfl) rfl h1 (fun r2 σ2 h2 => ?_)
  obtain ⟨rfl, hl⟩ := h2
  exact tn_icmp_eq (tgt := 1090) (pc := 1085) hΓ d_L_law_1085 (by decide) (fun _ => h _ _ _ _ _ (by omega) (by omega) hG hl) (fun hq => absurd rfl hq)
