set_option maxHeartbeats 4000000 in
set_option maxRecDepth 100000 in
theorem v_law_c0 {κ : oK} {x : oXp} {b : Nat → Nat} {b0 L : Nat} {xs : Nat → Int32} (C : oC κ (oL x b) 4 cL_law RL wsL_law 2000 (some .boolean)) (S : oS κ (oL x b) b0 L xs) (hz : lwK κ b0 (oL x b)) (rec : Int32 → Sg → Sg → Option (Int32 × Sg)) (hrec : ∀ (a3 : Int32) (σ τ : Sg), oV κ (oL x b) 4 (oQL κ) (cmb σ τ) 18 [(0, .ref b0), (1, .ref (xa x 0)), (2, .ref (b 0)), (3, .int a3)] [] (rec a3 σ τ)) (a3 : Int32) (σ τ : Sg) : oV κ (oL x b) 4 (oQL κ) (cmb σ τ) 192 [(0, .ref b0), (1, .ref (xa x 0)), (2, .ref (b 0)), (3, .int a3)] [] (f_law_c0 L xs rec a3 σ τ) := by
  have back : ∀ (σ τ : Sg) (K : Int32 → Option (Int32 × Sg)), (∀ v : Int32, oV κ (oL x b) 4 (oQL κ) (cmb σ τ) 18 [(0, .ref b0), (1, .ref (xa x 0)), (2, .ref (b 0)), (3, .int v)] [] (K v)) → oV κ (oL x b) 4 (oQL κ) (cmb σ τ) 1271 [(0, .ref b0), (1, .ref (xa x 0)), (2, .ref (b 0)), (3, .int a3)] [] (lt (a3 + (6 : Int32)) K) := by
    intro σ τ K hK
    refine r_iinc (pc := 1271) (v := (6 : Int32)) (lv1 := fun y => [(0, _), (1, _), (2, _), (3, .int y)]) C dL_law_1271 ic_6 3 rfl (by decide) [1, 2, 3, 0] (fun _ => rfl) (fun v => ?_)
    refine r_goto (pc := 1274) (tgt := 18) C dL_law_1274 (by decide) ?_
    exact hK v
  unfold f_law_c0
  refine r_aldn (pc := 192) C dL_law_192 1 rfl ?_
  refine r_aldn (pc := 193) C dL_law_193 0 rfl ?_
  refine r_ildn (pc := 194) C dL_law_194 3 rfl ?_
  refine r_iconst (pc := 195) (v := (1 : Int32)) C dL_law_195 ic_1 ?_
  refine r_iadd (pc := 196) C dL_law_196 ?_
  refine r_sld (pc := 197) C S dL_law_197 ?_
  refine r_aldn (pc := 198) C dL_law_198 0 rfl ?_
  refine r_ildn (pc := 199) C dL_law_199 3 rfl ?_
  refine r_iconst (pc := 200) (v := (2 : Int32)) C dL_law_200 ic_2 ?_
  refine r_iadd (pc := 201) C dL_law_201 ?_
  refine r_sld (pc := 202) C S dL_law_202 ?_
  refine r_aldn (pc := 203) C dL_law_203 0 rfl ?_
  refine r_ildn (pc := 204) C dL_law_204 3 rfl ?_
  refine r_iconst (pc := 205) (v := (3 : Int32)) C dL_law_205 ic_3 ?_
  refine r_iadd (pc := 206) C dL_law_206 ?_
  refine r_sld (pc := 207) C S dL_law_207 ?_
  refine r_aldn (pc := 208) C dL_law_208 0 rfl ?_
  refine r_ildn (pc := 209) C dL_law_209 3 rfl ?_
  refine r_iconst (pc := 210) (v := (4 : Int32)) C dL_law_210 ic_4 ?_
  refine r_iadd (pc := 211) C dL_law_211 ?_
  refine r_sld (pc := 212) C S dL_law_212 ?_
  refine r_LXi (pc := 213) (na := 4) (As := [.int (xs (a3 + (1 : Int32)).toNatClampNeg), .int (xs (a3 + (2 : Int32)).toNatClampNeg), .int (xs (a3 + (3 : Int32)).toNatClampNeg), .int (xs (a3 + (4 : Int32)).toNatClampNeg)]) C (fun l hI => m_X9_write l _ hI (xs (a3 + (1 : Int32)).toNatClampNeg) (xs (a3 + (2 : Int32)).toNatClampNeg) (xs (a3 + (3 : Int32)).toNatClampNeg) (xs (a3 + (4 : Int32)).toNatClampNeg) σ) gL_law_X9_write rfl (by decide +kernel) rfl (by decide) (by decide) rfl (Nat.le_of_ble_eq_true rfl) dL_law_213 (fun r1 s2 => ?_)
  refine r_aldn (pc := 216) C dL_law_216 2 rfl ?_
  refine r_aldn (pc := 217) C dL_law_217 0 rfl ?_
  refine r_ildn (pc := 218) C dL_law_218 3 rfl ?_
  refine r_iconst (pc := 219) (v := (1 : Int32)) C dL_law_219 ic_1 ?_
  refine r_iadd (pc := 220) C dL_law_220 ?_
  refine r_sld (pc := 221) C S dL_law_221 ?_
  refine r_aldn (pc := 222) C dL_law_222 0 rfl ?_
  refine r_ildn (pc := 223) C dL_law_223 3 rfl ?_
  refine r_iconst (pc := 224) (v := (2 : Int32)) C dL_law_224 ic_2 ?_
  refine r_iadd (pc := 225) C dL_law_225 ?_
  refine r_sld (pc := 226) C S dL_law_226 ?_
  refine r_aldn (pc := 227) C dL_law_227 0 rfl ?_
  refine r_ildn (pc := 228) C dL_law_228 3 rfl ?_
  refine r_iconst (pc := 229) (v := (3 : Int32)) C dL_law_229 ic_3 ?_
  refine r_iadd (pc := 230) C dL_law_230 ?_
  refine r_sld (pc := 231) C S dL_law_231 ?_
  refine r_aldn (pc := 232) C dL_law_232 0 rfl ?_
  refine r_ildn (pc := 233) C dL_law_233 3 rfl ?_
  refine r_iconst (pc := 234) (v := (4 : Int32)) C dL_law_234 ic_4 ?_
  refine r_iadd (pc := 235) C dL_law_235 ?_
  refine r_sld (pc := 236) C S dL_law_236 ?_
  refine r_LMi (pc := 237) (na := 4) (As := [.int (xs (a3 + (1 : Int32)).toNatClampNeg), .int (xs (a3 + (2 : Int32)).toNatClampNeg), .int (xs (a3 + (3 : Int32)).toNatClampNeg), .int (xs (a3 + (4 : Int32)).toNatClampNeg)]) C (fun l hI => m_X10_write l _ hI (xs (a3 + (1 : Int32)).toNatClampNeg) (xs (a3 + (2 : Int32)).toNatClampNeg) (xs (a3 + (3 : Int32)).toNatClampNeg) (xs (a3 + (4 : Int32)).toNatClampNeg) τ) gL_law_X10_write rfl (by decide +kernel) rfl (by decide) (by decide) rfl (Nat.le_of_ble_eq_true rfl) dL_law_237 (fun r3 t4 => ?_)
  refine r_iceq (pc := 240) (tgt := 1271) C dL_law_240 (by decide) ?_ ?_
  · exact back s2 t4 _ (fun v => hrec v _ _)
  · refine r_iconst (pc := 243) (v := (0 : Int32)) C dL_law_243 ic_0 ?_
    exact r_Lret0 C dL_law_244
set_option maxHeartbeats 4000000 in
set_option maxRecDepth 100000 in
theorem v_law_c1 {κ : oK} {x : oXp} {b : Nat → Nat} {b0 L : Nat} {xs : Nat → Int32} (C : oC κ (oL x b) 4 cL_law RL wsL_law 2000 (some .boolean)) (S : oS κ (oL x b) b0 L xs) (hz : lwK κ b0 (oL x b)) (rec : Int32 → Sg → Sg → Option (Int32 × Sg)) (hrec : ∀ (a3 : Int32) (σ τ : Sg), oV κ (oL x b) 4 (oQL κ) (cmb σ τ) 18 [(0, .ref b0), (1, .ref (xa x 0)), (2, .ref (b 0)), (3, .int a3)] [] (rec a3 σ τ)) (a3 : Int32) (σ τ : Sg) : oV κ (oL x b) 4 (oQL κ) (cmb σ τ) 245 [(0, .ref b0), (1, .ref (xa x 0)), (2, .ref (b 0)), (3, .int a3)] [] (f_law_c1 L xs rec a3 σ τ) := by
  have back : ∀ (σ τ : Sg) (K : Int32 → Option (Int32 × Sg)), (∀ v : Int32, oV κ (oL x b) 4 (oQL κ) (cmb σ τ) 18 [(0, .ref b0), (1, .ref (xa x 0)), (2, .ref (b 0)), (3, .int v)] [] (K v)) → oV κ (oL x b) 4 (oQL κ) (cmb σ τ) 1271 [(0, .ref b0), (1, .ref (xa x 0)), (2, .ref (b 0)), (3, .int a3)] [] (lt (a3 + (6 : Int32)) K) := by
    intro σ τ K hK
    refine r_iinc (pc := 1271) (v := (6 : Int32)) (lv1 := fun y => [(0, _), (1, _), (2, _), (3, .int y)]) C dL_law_1271 ic_6 3 rfl (by decide) [1, 2, 3, 0] (fun _ => rfl) (fun v => ?_)
    refine r_goto (pc := 1274) (tgt := 18) C dL_law_1274 (by decide) ?_
    exact hK v
  unfold f_law_c1
  refine r_aldn (pc := 245) C dL_law_245 1 rfl ?_
  refine r_aldn (pc := 246) C dL_law_246 0 rfl ?_
  refine r_ildn (pc := 247) C dL_law_247 3 rfl ?_
  refine r_iconst (pc := 248) (v := (1 : Int32)) C dL_law_248 ic_1 ?_
  refine r_iadd (pc := 249) C dL_law_249 ?_
  refine r_sld (pc := 250) C S dL_law_250 ?_
  refine r_aldn (pc := 251) C dL_law_251 0 rfl ?_
  refine r_ildn (pc := 252) C dL_law_252 3 rfl ?_
  refine r_iconst (pc := 253) (v := (2 : Int32)) C dL_law_253 ic_2 ?_
  refine r_iadd (pc := 254) C dL_law_254 ?_
  refine r_sld (pc := 255) C S dL_law_255 ?_
  refine r_LXi (pc := 256) (na := 2) (As := [.int (xs (a3 + (1 : Int32)).toNatClampNeg), .int (xs (a3 + (2 : Int32)).toNatClampNeg)]) C (fun l hI => m_X9_lineIs l _ hI (xs (a3 + (1 : Int32)).toNatClampNeg) (xs (a3 + (2 : Int32)).toNatClampNeg) σ) gL_law_X9_lineIs rfl (by decide +kernel) rfl (by decide) (by decide) rfl (Nat.le_of_ble_eq_true rfl) dL_law_256 (fun r1 s2 => ?_)
  refine r_aldn (pc := 259) C dL_law_259 2 rfl ?_
  refine r_aldn (pc := 260) C dL_law_260 0 rfl ?_
  refine r_ildn (pc := 261) C dL_law_261 3 rfl ?_
  refine r_iconst (pc := 262) (v := (1 : Int32)) C dL_law_262 ic_1 ?_
  refine r_iadd (pc := 263) C dL_law_263 ?_
  refine r_sld (pc := 264) C S dL_law_264 ?_
  refine r_aldn (pc := 265) C dL_law_265 0 rfl ?_
  refine r_ildn (pc := 266) C dL_law_266 3 rfl ?_
  refine r_iconst (pc := 267) (v := (2 : Int32)) C dL_law_267 ic_2 ?_
  refine r_iadd (pc := 268) C dL_law_268 ?_
  refine r_sld (pc := 269) C S dL_law_269 ?_
  refine r_LMi (pc := 270) (na := 2) (As := [.int (xs (a3 + (1 : Int32)).toNatClampNeg), .int (xs (a3 + (2 : Int32)).toNatClampNeg)]) C (fun l hI => m_X10_lineIs l _ hI (xs (a3 + (1 : Int32)).toNatClampNeg) (xs (a3 + (2 : Int32)).toNatClampNeg) τ) gL_law_X10_lineIs rfl (by decide +kernel) rfl (by decide) (by decide) rfl (Nat.le_of_ble_eq_true rfl) dL_law_270 (fun r3 t4 => ?_)
  refine r_iceq (pc := 273) (tgt := 1271) C dL_law_273 (by decide) ?_ ?_
  · exact back s2 t4 _ (fun v => hrec v _ _)
  · refine r_iconst (pc := 276) (v := (0 : Int32)) C dL_law_276 ic_0 ?_
    exact r_Lret0 C dL_law_277
set_option maxHeartbeats 4000000 in
set_option maxRecDepth 100000 in
theorem v_law_c2 {κ : oK} {x : oXp} {b : Nat → Nat} {b0 L : Nat} {xs : Nat → Int32} (C : oC κ (oL x b) 4 cL_law RL wsL_law 2000 (some .boolean)) (S : oS κ (oL x b) b0 L xs) (hz : lwK κ b0 (oL x b)) (rec : Int32 → Sg → Sg → Option (Int32 × Sg)) (hrec : ∀ (a3 : Int32) (σ τ : Sg), oV κ (oL x b) 4 (oQL κ) (cmb σ τ) 18 [(0, .ref b0), (1, .ref (xa x 0)), (2, .ref (b 0)), (3, .int a3)] [] (rec a3 σ τ)) (a3 : Int32) (σ τ : Sg) : oV κ (oL x b) 4 (oQL κ) (cmb σ τ) 278 [(0, .ref b0), (1, .ref (xa x 0)), (2, .ref (b 0)), (3, .int a3)] [] (f_law_c2 L xs rec a3 σ τ) := by
  have back : ∀ (σ τ : Sg) (K : Int32 → Option (Int32 × Sg)), (∀ v : Int32, oV κ (oL x b) 4 (oQL κ) (cmb σ τ) 18 [(0, .ref b0), (1, .ref (xa x 0)), (2, .ref (b 0)), (3, .int v)] [] (K v)) → oV κ (oL x b) 4 (oQL κ) (cmb σ τ) 1271 [(0, .ref b0), (1, .ref (xa x 0)), (2, .ref (b 0)), (3, .int a3)] [] (lt (a3 + (6 : Int32)) K) := by
    intro σ τ K hK
    refine r_iinc (pc := 1271) (v := (6 : Int32)) (lv1 := fun y => [(0, _), (1, _), (2, _), (3, .int y)]) C dL_law_1271 ic_6 3 rfl (by decide) [1, 2, 3, 0] (fun _ => rfl) (fun v => ?_)
    refine r_goto (pc := 1274) (tgt := 18) C dL_law_1274 (by decide) ?_
    exact hK v
  unfold f_law_c2
  refine r_aldn (pc := 278) C dL_law_278 1 rfl ?_
  refine r_aldn (pc := 279) C dL_law_279 0 rfl ?_
  refine r_ildn (pc := 280) C dL_law_280 3 rfl ?_
  refine r_iconst (pc := 281) (v := (1 : Int32)) C dL_law_281 ic_1 ?_
  refine r_iadd (pc := 282) C dL_law_282 ?_
  refine r_sld (pc := 283) C S dL_law_283 ?_
  refine r_aldn (pc := 284) C dL_law_284 0 rfl ?_
  refine r_ildn (pc := 285) C dL_law_285 3 rfl ?_
  refine r_iconst (pc := 286) (v := (2 : Int32)) C dL_law_286 ic_2 ?_
  refine r_iadd (pc := 287) C dL_law_287 ?_
  refine r_sld (pc := 288) C S dL_law_288 ?_
  refine r_LXi (pc := 289) (na := 2) (As := [.int (xs (a3 + (1 : Int32)).toNatClampNeg), .int (xs (a3 + (2 : Int32)).toNatClampNeg)]) C (fun l hI => m_X9_become l _ hI (xs (a3 + (1 : Int32)).toNatClampNeg) (xs (a3 + (2 : Int32)).toNatClampNeg) σ) gL_law_X9_become rfl (by decide +kernel) rfl (by decide) (by decide) rfl (Nat.le_of_ble_eq_true rfl) dL_law_289 (fun r1 s2 => ?_)
  refine r_aldn (pc := 292) C dL_law_292 2 rfl ?_
  refine r_aldn (pc := 293) C dL_law_293 0 rfl ?_
  refine r_ildn (pc := 294) C dL_law_294 3 rfl ?_
  refine r_iconst (pc := 295) (v := (1 : Int32)) C dL_law_295 ic_1 ?_
  refine r_iadd (pc := 296) C dL_law_296 ?_
  refine r_sld (pc := 297) C S dL_law_297 ?_
  refine r_aldn (pc := 298) C dL_law_298 0 rfl ?_
  refine r_ildn (pc := 299) C dL_law_299 3 rfl ?_
  refine r_iconst (pc := 300) (v := (2 : Int32)) C dL_law_300 ic_2 ?_
  refine r_iadd (pc := 301) C dL_law_301 ?_
  refine r_sld (pc := 302) C S dL_law_302 ?_
  refine r_LMi (pc := 303) (na := 2) (As := [.int (xs (a3 + (1 : Int32)).toNatClampNeg), .int (xs (a3 + (2 : Int32)).toNatClampNeg)]) C (fun l hI => m_X10_become l _ hI (xs (a3 + (1 : Int32)).toNatClampNeg) (xs (a3 + (2 : Int32)).toNatClampNeg) τ) gL_law_X10_become rfl (by decide +kernel) rfl (by decide) (by decide) rfl (Nat.le_of_ble_eq_true rfl) dL_law_303 (fun r3 t4 => ?_)
  refine r_iceq (pc := 306) (tgt := 1271) C dL_law_306 (by decide) ?_ ?_
  · exact back s2 t4 _ (fun v => hrec v _ _)
  · refine r_iconst (pc := 309) (v := (0 : Int32)) C dL_law_309 ic_0 ?_
    exact r_Lret0 C dL_law_310
set_option maxHeartbeats 4000000 in
set_option maxRecDepth 100000 in
theorem v_law_c3 {κ : oK} {x : oXp} {b : Nat → Nat} {b0 L : Nat} {xs : Nat → Int32} (C : oC κ (oL x b) 4 cL_law RL wsL_law 2000 (some .boolean)) (S : oS κ (oL x b) b0 L xs) (hz : lwK κ b0 (oL x b)) (rec : Int32 → Sg → Sg → Option (Int32 × Sg)) (hrec : ∀ (a3 : Int32) (σ τ : Sg), oV κ (oL x b) 4 (oQL κ) (cmb σ τ) 18 [(0, .ref b0), (1, .ref (xa x 0)), (2, .ref (b 0)), (3, .int a3)] [] (rec a3 σ τ)) (a3 : Int32) (σ τ : Sg) : oV κ (oL x b) 4 (oQL κ) (cmb σ τ) 311 [(0, .ref b0), (1, .ref (xa x 0)), (2, .ref (b 0)), (3, .int a3)] [] (f_law_c3 L xs rec a3 σ τ) := by
  have back : ∀ (σ τ : Sg) (K : Int32 → Option (Int32 × Sg)), (∀ v : Int32, oV κ (oL x b) 4 (oQL κ) (cmb σ τ) 18 [(0, .ref b0), (1, .ref (xa x 0)), (2, .ref (b 0)), (3, .int v)] [] (K v)) → oV κ (oL x b) 4 (oQL κ) (cmb σ τ) 1271 [(0, .ref b0), (1, .ref (xa x 0)), (2, .ref (b 0)), (3, .int a3)] [] (lt (a3 + (6 : Int32)) K) := by
    intro σ τ K hK
    refine r_iinc (pc := 1271) (v := (6 : Int32)) (lv1 := fun y => [(0, _), (1, _), (2, _), (3, .int y)]) C dL_law_1271 ic_6 3 rfl (by decide) [1, 2, 3, 0] (fun _ => rfl) (fun v => ?_)
    refine r_goto (pc := 1274) (tgt := 18) C dL_law_1274 (by decide) ?_
    exact hK v
  unfold f_law_c3
  refine r_aldn (pc := 311) C dL_law_311 1 rfl ?_
  refine r_aldn (pc := 312) C dL_law_312 0 rfl ?_
  refine r_ildn (pc := 313) C dL_law_313 3 rfl ?_
  refine r_iconst (pc := 314) (v := (1 : Int32)) C dL_law_314 ic_1 ?_
  refine r_iadd (pc := 315) C dL_law_315 ?_
  refine r_sld (pc := 316) C S dL_law_316 ?_
  refine r_aldn (pc := 317) C dL_law_317 0 rfl ?_
  refine r_ildn (pc := 318) C dL_law_318 3 rfl ?_
  refine r_iconst (pc := 319) (v := (2 : Int32)) C dL_law_319 ic_2 ?_
  refine r_iadd (pc := 320) C dL_law_320 ?_
  refine r_sld (pc := 321) C S dL_law_321 ?_
  refine r_LXi (pc := 322) (na := 2) (As := [.int (xs (a3 + (1 : Int32)).toNatClampNeg), .int (xs (a3 + (2 : Int32)).toNatClampNeg)]) C (fun l hI => m_X9_as l _ hI (xs (a3 + (1 : Int32)).toNatClampNeg) (xs (a3 + (2 : Int32)).toNatClampNeg) σ) gL_law_X9_as rfl (by decide +kernel) rfl (by decide) (by decide) rfl (Nat.le_of_ble_eq_true rfl) dL_law_322 (fun r1 s2 => ?_)
  refine r_aldn (pc := 325) C dL_law_325 2 rfl ?_
  refine r_aldn (pc := 326) C dL_law_326 0 rfl ?_
  refine r_ildn (pc := 327) C dL_law_327 3 rfl ?_
  refine r_iconst (pc := 328) (v := (1 : Int32)) C dL_law_328 ic_1 ?_
  refine r_iadd (pc := 329) C dL_law_329 ?_
  refine r_sld (pc := 330) C S dL_law_330 ?_
  refine r_aldn (pc := 331) C dL_law_331 0 rfl ?_
  refine r_ildn (pc := 332) C dL_law_332 3 rfl ?_
  refine r_iconst (pc := 333) (v := (2 : Int32)) C dL_law_333 ic_2 ?_
  refine r_iadd (pc := 334) C dL_law_334 ?_
  refine r_sld (pc := 335) C S dL_law_335 ?_
  refine r_LMi (pc := 336) (na := 2) (As := [.int (xs (a3 + (1 : Int32)).toNatClampNeg), .int (xs (a3 + (2 : Int32)).toNatClampNeg)]) C (fun l hI => m_X10_as l _ hI (xs (a3 + (1 : Int32)).toNatClampNeg) (xs (a3 + (2 : Int32)).toNatClampNeg) τ) gL_law_X10_as rfl (by decide +kernel) rfl (by decide) (by decide) rfl (Nat.le_of_ble_eq_true rfl) dL_law_336 (fun r3 t4 => ?_)
  refine r_iceq (pc := 339) (tgt := 1271) C dL_law_339 (by decide) ?_ ?_
  · exact back s2 t4 _ (fun v => hrec v _ _)
  · refine r_iconst (pc := 342) (v := (0 : Int32)) C dL_law_342 ic_0 ?_
    exact r_Lret0 C dL_law_343
set_option maxHeartbeats 4000000 in
set_option maxRecDepth 100000 in
theorem v_law_c4 {κ : oK} {x : oXp} {b : Nat → Nat} {b0 L : Nat} {xs : Nat → Int32} (C : oC κ (oL x b) 4 cL_law RL wsL_law 2000 (some .boolean)) (S : oS κ (oL x b) b0 L xs) (hz : lwK κ b0 (oL x b)) (rec : Int32 → Sg → Sg → Option (Int32 × Sg)) (hrec : ∀ (a3 : Int32) (σ τ : Sg), oV κ (oL x b) 4 (oQL κ) (cmb σ τ) 18 [(0, .ref b0), (1, .ref (xa x 0)), (2, .ref (b 0)), (3, .int a3)] [] (rec a3 σ τ)) (a3 : Int32) (σ τ : Sg) : oV κ (oL x b) 4 (oQL κ) (cmb σ τ) 344 [(0, .ref b0), (1, .ref (xa x 0)), (2, .ref (b 0)), (3, .int a3)] [] (f_law_c4 L xs rec a3 σ τ) := by
  have back : ∀ (σ τ : Sg) (K : Int32 → Option (Int32 × Sg)), (∀ v : Int32, oV κ (oL x b) 4 (oQL κ) (cmb σ τ) 18 [(0, .ref b0), (1, .ref (xa x 0)), (2, .ref (b 0)), (3, .int v)] [] (K v)) → oV κ (oL x b) 4 (oQL κ) (cmb σ τ) 1271 [(0, .ref b0), (1, .ref (xa x 0)), (2, .ref (b 0)), (3, .int a3)] [] (lt (a3 + (6 : Int32)) K) := by
    intro σ τ K hK
    refine r_iinc (pc := 1271) (v := (6 : Int32)) (lv1 := fun y => [(0, _), (1, _), (2, _), (3, .int y)]) C dL_law_1271 ic_6 3 rfl (by decide) [1, 2, 3, 0] (fun _ => rfl) (fun v => ?_)
    refine r_goto (pc := 1274) (tgt := 18) C dL_law_1274 (by decide) ?_
    exact hK v
  unfold f_law_c4
  refine r_aldn (pc := 344) C dL_law_344 1 rfl ?_
  refine r_aldn (pc := 345) C dL_law_345 0 rfl ?_
  refine r_ildn (pc := 346) C dL_law_346 3 rfl ?_
  refine r_iconst (pc := 347) (v := (1 : Int32)) C dL_law_347 ic_1 ?_
  refine r_iadd (pc := 348) C dL_law_348 ?_
  refine r_sld (pc := 349) C S dL_law_349 ?_
  refine r_aldn (pc := 350) C dL_law_350 0 rfl ?_
  refine r_ildn (pc := 351) C dL_law_351 3 rfl ?_
  refine r_iconst (pc := 352) (v := (2 : Int32)) C dL_law_352 ic_2 ?_
  refine r_iadd (pc := 353) C dL_law_353 ?_
  refine r_sld (pc := 354) C S dL_law_354 ?_
  refine r_LXi (pc := 355) (na := 2) (As := [.int (xs (a3 + (1 : Int32)).toNatClampNeg), .int (xs (a3 + (2 : Int32)).toNatClampNeg)]) C (fun l hI => m_X9_photo l _ hI (xs (a3 + (1 : Int32)).toNatClampNeg) (xs (a3 + (2 : Int32)).toNatClampNeg) σ) gL_law_X9_photo rfl (by decide +kernel) rfl (by decide) (by decide) rfl (Nat.le_of_ble_eq_true rfl) dL_law_355 (fun r1 s2 => ?_)
  refine r_aldn (pc := 358) C dL_law_358 2 rfl ?_
  refine r_aldn (pc := 359) C dL_law_359 0 rfl ?_
  refine r_ildn (pc := 360) C dL_law_360 3 rfl ?_
  refine r_iconst (pc := 361) (v := (1 : Int32)) C dL_law_361 ic_1 ?_
  refine r_iadd (pc := 362) C dL_law_362 ?_
  refine r_sld (pc := 363) C S dL_law_363 ?_
  refine r_aldn (pc := 364) C dL_law_364 0 rfl ?_
  refine r_ildn (pc := 365) C dL_law_365 3 rfl ?_
  refine r_iconst (pc := 366) (v := (2 : Int32)) C dL_law_366 ic_2 ?_
  refine r_iadd (pc := 367) C dL_law_367 ?_
  refine r_sld (pc := 368) C S dL_law_368 ?_
  refine r_LMi (pc := 369) (na := 2) (As := [.int (xs (a3 + (1 : Int32)).toNatClampNeg), .int (xs (a3 + (2 : Int32)).toNatClampNeg)]) C (fun l hI => m_X10_photo l _ hI (xs (a3 + (1 : Int32)).toNatClampNeg) (xs (a3 + (2 : Int32)).toNatClampNeg) τ) gL_law_X10_photo rfl (by decide +kernel) rfl (by decide) (by decide) rfl (Nat.le_of_ble_eq_true rfl) dL_law_369 (fun r3 t4 => ?_)
  refine r_iceq (pc := 372) (tgt := 1271) C dL_law_372 (by decide) ?_ ?_
  · exact back s2 t4 _ (fun v => hrec v _ _)
  · refine r_iconst (pc := 375) (v := (0 : Int32)) C dL_law_375 ic_0 ?_
    exact r_Lret0 C dL_law_376
set_option maxHeartbeats 4000000 in
set_option maxRecDepth 100000 in
theorem v_law_c5 {κ : oK} {x : oXp} {b : Nat → Nat} {b0 L : Nat} {xs : Nat → Int32} (C : oC κ (oL x b) 4 cL_law RL wsL_law 2000 (some .boolean)) (S : oS κ (oL x b) b0 L xs) (hz : lwK κ b0 (oL x b)) (rec : Int32 → Sg → Sg → Option (Int32 × Sg)) (hrec : ∀ (a3 : Int32) (σ τ : Sg), oV κ (oL x b) 4 (oQL κ) (cmb σ τ) 18 [(0, .ref b0), (1, .ref (xa x 0)), (2, .ref (b 0)), (3, .int a3)] [] (rec a3 σ τ)) (a3 : Int32) (σ τ : Sg) : oV κ (oL x b) 4 (oQL κ) (cmb σ τ) 377 [(0, .ref b0), (1, .ref (xa x 0)), (2, .ref (b 0)), (3, .int a3)] [] (f_law_c5 L xs rec a3 σ τ) := by
  have back : ∀ (σ τ : Sg) (K : Int32 → Option (Int32 × Sg)), (∀ v : Int32, oV κ (oL x b) 4 (oQL κ) (cmb σ τ) 18 [(0, .ref b0), (1, .ref (xa x 0)), (2, .ref (b 0)), (3, .int v)] [] (K v)) → oV κ (oL x b) 4 (oQL κ) (cmb σ τ) 1271 [(0, .ref b0), (1, .ref (xa x 0)), (2, .ref (b 0)), (3, .int a3)] [] (lt (a3 + (6 : Int32)) K) := by
    intro σ τ K hK
    refine r_iinc (pc := 1271) (v := (6 : Int32)) (lv1 := fun y => [(0, _), (1, _), (2, _), (3, .int y)]) C dL_law_1271 ic_6 3 rfl (by decide) [1, 2, 3, 0] (fun _ => rfl) (fun v => ?_)
    refine r_goto (pc := 1274) (tgt := 18) C dL_law_1274 (by decide) ?_
    exact hK v
  unfold f_law_c5
  refine r_aldn (pc := 377) C dL_law_377 1 rfl ?_
  refine r_aldn (pc := 378) C dL_law_378 0 rfl ?_
  refine r_ildn (pc := 379) C dL_law_379 3 rfl ?_
  refine r_iconst (pc := 380) (v := (1 : Int32)) C dL_law_380 ic_1 ?_
  refine r_iadd (pc := 381) C dL_law_381 ?_
  refine r_sld (pc := 382) C S dL_law_382 ?_
  refine r_LXi (pc := 383) (na := 1) (As := [.int (xs (a3 + (1 : Int32)).toNatClampNeg)]) C (fun l hI => m_X9_wipe l _ hI (xs (a3 + (1 : Int32)).toNatClampNeg) σ) gL_law_X9_wipe rfl (by decide +kernel) rfl (by decide) (by decide) rfl (Nat.le_of_ble_eq_true rfl) dL_law_383 (fun r1 s2 => ?_)
  refine r_aldn (pc := 386) C dL_law_386 2 rfl ?_
  refine r_aldn (pc := 387) C dL_law_387 0 rfl ?_
  refine r_ildn (pc := 388) C dL_law_388 3 rfl ?_
  refine r_iconst (pc := 389) (v := (1 : Int32)) C dL_law_389 ic_1 ?_
  refine r_iadd (pc := 390) C dL_law_390 ?_
  refine r_sld (pc := 391) C S dL_law_391 ?_
  refine r_LMi (pc := 392) (na := 1) (As := [.int (xs (a3 + (1 : Int32)).toNatClampNeg)]) C (fun l hI => m_X10_wipe l _ hI (xs (a3 + (1 : Int32)).toNatClampNeg) τ) gL_law_X10_wipe rfl (by decide +kernel) rfl (by decide) (by decide) rfl (Nat.le_of_ble_eq_true rfl) dL_law_392 (fun r3 t4 => ?_)
  refine r_iceq (pc := 395) (tgt := 1271) C dL_law_395 (by decide) ?_ ?_
  · exact back s2 t4 _ (fun v => hrec v _ _)
  · refine r_iconst (pc := 398) (v := (0 : Int32)) C dL_law_398 ic_0 ?_
    exact r_Lret0 C dL_law_399
set_option maxHeartbeats 4000000 in
set_option maxRecDepth 100000 in
theorem v_law_c6 {κ : oK} {x : oXp} {b : Nat → Nat} {b0 L : Nat} {xs : Nat → Int32} (C : oC κ (oL x b) 4 cL_law RL wsL_law 2000 (some .boolean)) (S : oS κ (oL x b) b0 L xs) (hz : lwK κ b0 (oL x b)) (rec : Int32 → Sg → Sg → Option (Int32 × Sg)) (hrec : ∀ (a3 : Int32) (σ τ : Sg), oV κ (oL x b) 4 (oQL κ) (cmb σ τ) 18 [(0, .ref b0), (1, .ref (xa x 0)), (2, .ref (b 0)), (3, .int a3)] [] (rec a3 σ τ)) (a3 : Int32) (σ τ : Sg) : oV κ (oL x b) 4 (oQL κ) (cmb σ τ) 400 [(0, .ref b0), (1, .ref (xa x 0)), (2, .ref (b 0)), (3, .int a3)] [] (f_law_c6 L xs rec a3 σ τ) := by
  have back : ∀ (σ τ : Sg) (K : Int32 → Option (Int32 × Sg)), (∀ v : Int32, oV κ (oL x b) 4 (oQL κ) (cmb σ τ) 18 [(0, .ref b0), (1, .ref (xa x 0)), (2, .ref (b 0)), (3, .int v)] [] (K v)) → oV κ (oL x b) 4 (oQL κ) (cmb σ τ) 1271 [(0, .ref b0), (1, .ref (xa x 0)), (2, .ref (b 0)), (3, .int a3)] [] (lt (a3 + (6 : Int32)) K) := by
    intro σ τ K hK
    refine r_iinc (pc := 1271) (v := (6 : Int32)) (lv1 := fun y => [(0, _), (1, _), (2, _), (3, .int y)]) C dL_law_1271 ic_6 3 rfl (by decide) [1, 2, 3, 0] (fun _ => rfl) (fun v => ?_)
    refine r_goto (pc := 1274) (tgt := 18) C dL_law_1274 (by decide) ?_
    exact hK v
  unfold f_law_c6
  refine r_aldn (pc := 400) C dL_law_400 1 rfl ?_
  refine r_aldn (pc := 401) C dL_law_401 0 rfl ?_
  refine r_ildn (pc := 402) C dL_law_402 3 rfl ?_
  refine r_iconst (pc := 403) (v := (1 : Int32)) C dL_law_403 ic_1 ?_
  refine r_iadd (pc := 404) C dL_law_404 ?_
  refine r_sld (pc := 405) C S dL_law_405 ?_
  refine r_aldn (pc := 406) C dL_law_406 0 rfl ?_
  refine r_ildn (pc := 407) C dL_law_407 3 rfl ?_
  refine r_iconst (pc := 408) (v := (2 : Int32)) C dL_law_408 ic_2 ?_
  refine r_iadd (pc := 409) C dL_law_409 ?_
  refine r_sld (pc := 410) C S dL_law_410 ?_
  refine r_LXi (pc := 411) (na := 2) (As := [.int (xs (a3 + (1 : Int32)).toNatClampNeg), .int (xs (a3 + (2 : Int32)).toNatClampNeg)]) C (fun l hI => m_X9_pen l _ hI (xs (a3 + (1 : Int32)).toNatClampNeg) (xs (a3 + (2 : Int32)).toNatClampNeg) σ) gL_law_X9_pen rfl (by decide +kernel) rfl (by decide) (by decide) rfl (Nat.le_of_ble_eq_true rfl) dL_law_411 (fun r1 s2 => ?_)
  refine r_aldn (pc := 414) C dL_law_414 2 rfl ?_
  refine r_aldn (pc := 415) C dL_law_415 0 rfl ?_
  refine r_ildn (pc := 416) C dL_law_416 3 rfl ?_
  refine r_iconst (pc := 417) (v := (1 : Int32)) C dL_law_417 ic_1 ?_
  refine r_iadd (pc := 418) C dL_law_418 ?_
  refine r_sld (pc := 419) C S dL_law_419 ?_
  refine r_aldn (pc := 420) C dL_law_420 0 rfl ?_
  refine r_ildn (pc := 421) C dL_law_421 3 rfl ?_
  refine r_iconst (pc := 422) (v := (2 : Int32)) C dL_law_422 ic_2 ?_
  refine r_iadd (pc := 423) C dL_law_423 ?_
  refine r_sld (pc := 424) C S dL_law_424 ?_
  refine r_LMi (pc := 425) (na := 2) (As := [.int (xs (a3 + (1 : Int32)).toNatClampNeg), .int (xs (a3 + (2 : Int32)).toNatClampNeg)]) C (fun l hI => m_X10_pen l _ hI (xs (a3 + (1 : Int32)).toNatClampNeg) (xs (a3 + (2 : Int32)).toNatClampNeg) τ) gL_law_X10_pen rfl (by decide +kernel) rfl (by decide) (by decide) rfl (Nat.le_of_ble_eq_true rfl) dL_law_425 (fun r3 t4 => ?_)
  refine r_iceq (pc := 428) (tgt := 1271) C dL_law_428 (by decide) ?_ ?_
  · exact back s2 t4 _ (fun v => hrec v _ _)
  · refine r_iconst (pc := 431) (v := (0 : Int32)) C dL_law_431 ic_0 ?_
    exact r_Lret0 C dL_law_432
set_option maxHeartbeats 4000000 in
set_option maxRecDepth 100000 in
theorem v_law_c7 {κ : oK} {x : oXp} {b : Nat → Nat} {b0 L : Nat} {xs : Nat → Int32} (C : oC κ (oL x b) 4 cL_law RL wsL_law 2000 (some .boolean)) (S : oS κ (oL x b) b0 L xs) (hz : lwK κ b0 (oL x b)) (rec : Int32 → Sg → Sg → Option (Int32 × Sg)) (hrec : ∀ (a3 : Int32) (σ τ : Sg), oV κ (oL x b) 4 (oQL κ) (cmb σ τ) 18 [(0, .ref b0), (1, .ref (xa x 0)), (2, .ref (b 0)), (3, .int a3)] [] (rec a3 σ τ)) (a3 : Int32) (σ τ : Sg) : oV κ (oL x b) 4 (oQL κ) (cmb σ τ) 433 [(0, .ref b0), (1, .ref (xa x 0)), (2, .ref (b 0)), (3, .int a3)] [] (f_law_c7 L xs rec a3 σ τ) := by
  have back : ∀ (σ τ : Sg) (K : Int32 → Option (Int32 × Sg)), (∀ v : Int32, oV κ (oL x b) 4 (oQL κ) (cmb σ τ) 18 [(0, .ref b0), (1, .ref (xa x 0)), (2, .ref (b 0)), (3, .int v)] [] (K v)) → oV κ (oL x b) 4 (oQL κ) (cmb σ τ) 1271 [(0, .ref b0), (1, .ref (xa x 0)), (2, .ref (b 0)), (3, .int a3)] [] (lt (a3 + (6 : Int32)) K) := by
    intro σ τ K hK
    refine r_iinc (pc := 1271) (v := (6 : Int32)) (lv1 := fun y => [(0, _), (1, _), (2, _), (3, .int y)]) C dL_law_1271 ic_6 3 rfl (by decide) [1, 2, 3, 0] (fun _ => rfl) (fun v => ?_)
    refine r_goto (pc := 1274) (tgt := 18) C dL_law_1274 (by decide) ?_
    exact hK v
  unfold f_law_c7
  refine r_aldn (pc := 433) C dL_law_433 1 rfl ?_
  refine r_aldn (pc := 434) C dL_law_434 0 rfl ?_
  refine r_ildn (pc := 435) C dL_law_435 3 rfl ?_
  refine r_iconst (pc := 436) (v := (1 : Int32)) C dL_law_436 ic_1 ?_
  refine r_iadd (pc := 437) C dL_law_437 ?_
  refine r_sld (pc := 438) C S dL_law_438 ?_
  refine r_LXi (pc := 439) (na := 1) (As := [.int (xs (a3 + (1 : Int32)).toNatClampNeg)]) C (fun l hI => m_X9_spirit l _ hI (xs (a3 + (1 : Int32)).toNatClampNeg) σ) gL_law_X9_spirit rfl (by decide +kernel) rfl (by decide) (by decide) rfl (Nat.le_of_ble_eq_true rfl) dL_law_439 (fun r1 s2 => ?_)
  refine r_aldn (pc := 442) C dL_law_442 2 rfl ?_
  refine r_aldn (pc := 443) C dL_law_443 0 rfl ?_
  refine r_ildn (pc := 444) C dL_law_444 3 rfl ?_
  refine r_iconst (pc := 445) (v := (1 : Int32)) C dL_law_445 ic_1 ?_
  refine r_iadd (pc := 446) C dL_law_446 ?_
  refine r_sld (pc := 447) C S dL_law_447 ?_
  refine r_LMi (pc := 448) (na := 1) (As := [.int (xs (a3 + (1 : Int32)).toNatClampNeg)]) C (fun l hI => m_X10_spirit l _ hI (xs (a3 + (1 : Int32)).toNatClampNeg) τ) gL_law_X10_spirit rfl (by decide +kernel) rfl (by decide) (by decide) rfl (Nat.le_of_ble_eq_true rfl) dL_law_448 (fun r3 t4 => ?_)
  refine r_iceq (pc := 451) (tgt := 1271) C dL_law_451 (by decide) ?_ ?_
  · exact back s2 t4 _ (fun v => hrec v _ _)
  · refine r_iconst (pc := 454) (v := (0 : Int32)) C dL_law_454 ic_0 ?_
    exact r_Lret0 C dL_law_455
set_option maxHeartbeats 4000000 in
set_option maxRecDepth 100000 in
theorem v_law_c8 {κ : oK} {x : oXp} {b : Nat → Nat} {b0 L : Nat} {xs : Nat → Int32} (C : oC κ (oL x b) 4 cL_law RL wsL_law 2000 (some .boolean)) (S : oS κ (oL x b) b0 L xs) (hz : lwK κ b0 (oL x b)) (rec : Int32 → Sg → Sg → Option (Int32 × Sg)) (hrec : ∀ (a3 : Int32) (σ τ : Sg), oV κ (oL x b) 4 (oQL κ) (cmb σ τ) 18 [(0, .ref b0), (1, .ref (xa x 0)), (2, .ref (b 0)), (3, .int a3)] [] (rec a3 σ τ)) (a3 : Int32) (σ τ : Sg) : oV κ (oL x b) 4 (oQL κ) (cmb σ τ) 456 [(0, .ref b0), (1, .ref (xa x 0)), (2, .ref (b 0)), (3, .int a3)] [] (f_law_c8 L xs rec a3 σ τ) := by
  have back : ∀ (σ τ : Sg) (K : Int32 → Option (Int32 × Sg)), (∀ v : Int32, oV κ (oL x b) 4 (oQL κ) (cmb σ τ) 18 [(0, .ref b0), (1, .ref (xa x 0)), (2, .ref (b 0)), (3, .int v)] [] (K v)) → oV κ (oL x b) 4 (oQL κ) (cmb σ τ) 1271 [(0, .ref b0), (1, .ref (xa x 0)), (2, .ref (b 0)), (3, .int a3)] [] (lt (a3 + (6 : Int32)) K) := by
    intro σ τ K hK
    refine r_iinc (pc := 1271) (v := (6 : Int32)) (lv1 := fun y => [(0, _), (1, _), (2, _), (3, .int y)]) C dL_law_1271 ic_6 3 rfl (by decide) [1, 2, 3, 0] (fun _ => rfl) (fun v => ?_)
    refine r_goto (pc := 1274) (tgt := 18) C dL_law_1274 (by decide) ?_
    exact hK v
  unfold f_law_c8
  refine r_aldn (pc := 456) C dL_law_456 1 rfl ?_
  refine r_aldn (pc := 457) C dL_law_457 0 rfl ?_
  refine r_ildn (pc := 458) C dL_law_458 3 rfl ?_
  refine r_iconst (pc := 459) (v := (1 : Int32)) C dL_law_459 ic_1 ?_
  refine r_iadd (pc := 460) C dL_law_460 ?_
  refine r_sld (pc := 461) C S dL_law_461 ?_
  refine r_i2l (pc := 462) C dL_law_462 ?_
  refine r_bipush (pc := 463) (v := (32 : Int32)) C dL_law_463 bp_32 ?_
  refine r_lshl (pc := 465) C dL_law_465 ?_
  refine r_aldn (pc := 466) C dL_law_466 0 rfl ?_
  refine r_ildn (pc := 467) C dL_law_467 3 rfl ?_
  refine r_iconst (pc := 468) (v := (2 : Int32)) C dL_law_468 ic_2 ?_
  refine r_iadd (pc := 469) C dL_law_469 ?_
  refine r_sld (pc := 470) C S dL_law_470 ?_
  refine r_i2l (pc := 471) C dL_law_471 ?_
  refine r_ldc2 (pc := 472) (v := (4294967295 : Int64)) C dL_law_472 wd_L_law_6 ?_
  refine r_land (pc := 475) C dL_law_475 ?_
  refine r_lor (pc := 476) C dL_law_476 ?_
  refine r_aldn (pc := 477) C dL_law_477 0 rfl ?_
  refine r_ildn (pc := 478) C dL_law_478 3 rfl ?_
  refine r_iconst (pc := 479) (v := (3 : Int32)) C dL_law_479 ic_3 ?_
  refine r_iadd (pc := 480) C dL_law_480 ?_
  refine r_sld (pc := 481) C S dL_law_481 ?_
  refine r_LXi (pc := 482) (na := 2) (As := [.long ((lsl ((xs (a3 + (1 : Int32)).toNatClampNeg).toInt64) (32 : Int32)) ||| ((xs (a3 + (2 : Int32)).toNatClampNeg).toInt64 &&& (4294967295 : Int64))), .int (xs (a3 + (3 : Int32)).toNatClampNeg)]) C (fun l hI => m_X9_feed l _ hI ((lsl ((xs (a3 + (1 : Int32)).toNatClampNeg).toInt64) (32 : Int32)) ||| ((xs (a3 + (2 : Int32)).toNatClampNeg).toInt64 &&& (4294967295 : Int64))) (xs (a3 + (3 : Int32)).toNatClampNeg) σ) gL_law_X9_feed rfl (by decide +kernel) rfl (by decide) (by decide) rfl (Nat.le_of_ble_eq_true rfl) dL_law_482 (fun r1 s2 => ?_)
  refine r_aldn (pc := 485) C dL_law_485 2 rfl ?_
  refine r_aldn (pc := 486) C dL_law_486 0 rfl ?_
  refine r_ildn (pc := 487) C dL_law_487 3 rfl ?_
  refine r_iconst (pc := 488) (v := (1 : Int32)) C dL_law_488 ic_1 ?_
  refine r_iadd (pc := 489) C dL_law_489 ?_
  refine r_sld (pc := 490) C S dL_law_490 ?_
  refine r_i2l (pc := 491) C dL_law_491 ?_
  refine r_bipush (pc := 492) (v := (32 : Int32)) C dL_law_492 bp_32 ?_
  refine r_lshl (pc := 494) C dL_law_494 ?_
  refine r_aldn (pc := 495) C dL_law_495 0 rfl ?_
  refine r_ildn (pc := 496) C dL_law_496 3 rfl ?_
  refine r_iconst (pc := 497) (v := (2 : Int32)) C dL_law_497 ic_2 ?_
  refine r_iadd (pc := 498) C dL_law_498 ?_
  refine r_sld (pc := 499) C S dL_law_499 ?_
  refine r_i2l (pc := 500) C dL_law_500 ?_
  refine r_ldc2 (pc := 501) (v := (4294967295 : Int64)) C dL_law_501 wd_L_law_6 ?_
  refine r_land (pc := 504) C dL_law_504 ?_
  refine r_lor (pc := 505) C dL_law_505 ?_
  refine r_aldn (pc := 506) C dL_law_506 0 rfl ?_
  refine r_ildn (pc := 507) C dL_law_507 3 rfl ?_
  refine r_iconst (pc := 508) (v := (3 : Int32)) C dL_law_508 ic_3 ?_
  refine r_iadd (pc := 509) C dL_law_509 ?_
  refine r_sld (pc := 510) C S dL_law_510 ?_
  refine r_LMi (pc := 511) (na := 2) (As := [.long ((lsl ((xs (a3 + (1 : Int32)).toNatClampNeg).toInt64) (32 : Int32)) ||| ((xs (a3 + (2 : Int32)).toNatClampNeg).toInt64 &&& (4294967295 : Int64))), .int (xs (a3 + (3 : Int32)).toNatClampNeg)]) C (fun l hI => m_X10_feed l _ hI ((lsl ((xs (a3 + (1 : Int32)).toNatClampNeg).toInt64) (32 : Int32)) ||| ((xs (a3 + (2 : Int32)).toNatClampNeg).toInt64 &&& (4294967295 : Int64))) (xs (a3 + (3 : Int32)).toNatClampNeg) τ) gL_law_X10_feed rfl (by decide +kernel) rfl (by decide) (by decide) rfl (Nat.le_of_ble_eq_true rfl) dL_law_511 (fun r3 t4 => ?_)
  refine r_iceq (pc := 514) (tgt := 1271) C dL_law_514 (by decide) ?_ ?_
  · exact back s2 t4 _ (fun v => hrec v _ _)
  · refine r_iconst (pc := 517) (v := (0 : Int32)) C dL_law_517 ic_0 ?_
    exact r_Lret0 C dL_law_518
set_option maxHeartbeats 4000000 in
set_option maxRecDepth 100000 in
theorem v_law_c9 {κ : oK} {x : oXp} {b : Nat → Nat} {b0 L : Nat} {xs : Nat → Int32} (C : oC κ (oL x b) 4 cL_law RL wsL_law 2000 (some .boolean)) (S : oS κ (oL x b) b0 L xs) (hz : lwK κ b0 (oL x b)) (rec : Int32 → Sg → Sg → Option (Int32 × Sg)) (hrec : ∀ (a3 : Int32) (σ τ : Sg), oV κ (oL x b) 4 (oQL κ) (cmb σ τ) 18 [(0, .ref b0), (1, .ref (xa x 0)), (2, .ref (b 0)), (3, .int a3)] [] (rec a3 σ τ)) (a3 : Int32) (σ τ : Sg) : oV κ (oL x b) 4 (oQL κ) (cmb σ τ) 519 [(0, .ref b0), (1, .ref (xa x 0)), (2, .ref (b 0)), (3, .int a3)] [] (f_law_c9 L xs rec a3 σ τ) := by
  have back : ∀ (σ τ : Sg) (K : Int32 → Option (Int32 × Sg)), (∀ v : Int32, oV κ (oL x b) 4 (oQL κ) (cmb σ τ) 18 [(0, .ref b0), (1, .ref (xa x 0)), (2, .ref (b 0)), (3, .int v)] [] (K v)) → oV κ (oL x b) 4 (oQL κ) (cmb σ τ) 1271 [(0, .ref b0), (1, .ref (xa x 0)), (2, .ref (b 0)), (3, .int a3)] [] (lt (a3 + (6 : Int32)) K) := by
    intro σ τ K hK
    refine r_iinc (pc := 1271) (v := (6 : Int32)) (lv1 := fun y => [(0, _), (1, _), (2, _), (3, .int y)]) C dL_law_1271 ic_6 3 rfl (by decide) [1, 2, 3, 0] (fun _ => rfl) (fun v => ?_)
    refine r_goto (pc := 1274) (tgt := 18) C dL_law_1274 (by decide) ?_
    exact hK v
  unfold f_law_c9
  refine r_aldn (pc := 519) C dL_law_519 1 rfl ?_
  refine r_aldn (pc := 520) C dL_law_520 0 rfl ?_
  refine r_ildn (pc := 521) C dL_law_521 3 rfl ?_
  refine r_iconst (pc := 522) (v := (1 : Int32)) C dL_law_522 ic_1 ?_
  refine r_iadd (pc := 523) C dL_law_523 ?_
  refine r_sld (pc := 524) C S dL_law_524 ?_
  refine r_LXi (pc := 525) (na := 1) (As := [.int (xs (a3 + (1 : Int32)).toNatClampNeg)]) C (fun l hI => m_X9_text l _ hI (xs (a3 + (1 : Int32)).toNatClampNeg) σ) gL_law_X9_text rfl (by decide +kernel) rfl (by decide) (by decide) rfl (Nat.le_of_ble_eq_true rfl) dL_law_525 (fun r1 s2 => ?_)
  refine r_aldn (pc := 528) C dL_law_528 2 rfl ?_
  refine r_aldn (pc := 529) C dL_law_529 0 rfl ?_
  refine r_ildn (pc := 530) C dL_law_530 3 rfl ?_
  refine r_iconst (pc := 531) (v := (1 : Int32)) C dL_law_531 ic_1 ?_
  refine r_iadd (pc := 532) C dL_law_532 ?_
  refine r_sld (pc := 533) C S dL_law_533 ?_
  refine r_LMi (pc := 534) (na := 1) (As := [.int (xs (a3 + (1 : Int32)).toNatClampNeg)]) C (fun l hI => m_X10_text l _ hI (xs (a3 + (1 : Int32)).toNatClampNeg) τ) gL_law_X10_text rfl (by decide +kernel) rfl (by decide) (by decide) rfl (Nat.le_of_ble_eq_true rfl) dL_law_534 (fun r3 t4 => ?_)
  refine r_iceq (pc := 537) (tgt := 1271) C dL_law_537 (by decide) ?_ ?_
  · exact back s2 t4 _ (fun v => hrec v _ _)
  · refine r_iconst (pc := 540) (v := (0 : Int32)) C dL_law_540 ic_0 ?_
    exact r_Lret0 C dL_law_541
set_option maxHeartbeats 4000000 in
set_option maxRecDepth 100000 in
theorem v_law_c10 {κ : oK} {x : oXp} {b : Nat → Nat} {b0 L : Nat} {xs : Nat → Int32} (C : oC κ (oL x b) 4 cL_law RL wsL_law 2000 (some .boolean)) (S : oS κ (oL x b) b0 L xs) (hz : lwK κ b0 (oL x b)) (rec : Int32 → Sg → Sg → Option (Int32 × Sg)) (hrec : ∀ (a3 : Int32) (σ τ : Sg), oV κ (oL x b) 4 (oQL κ) (cmb σ τ) 18 [(0, .ref b0), (1, .ref (xa x 0)), (2, .ref (b 0)), (3, .int a3)] [] (rec a3 σ τ)) (a3 : Int32) (σ τ : Sg) : oV κ (oL x b) 4 (oQL κ) (cmb σ τ) 542 [(0, .ref b0), (1, .ref (xa x 0)), (2, .ref (b 0)), (3, .int a3)] [] (f_law_c10 L xs rec a3 σ τ) := by
  have back : ∀ (σ τ : Sg) (K : Int32 → Option (Int32 × Sg)), (∀ v : Int32, oV κ (oL x b) 4 (oQL κ) (cmb σ τ) 18 [(0, .ref b0), (1, .ref (xa x 0)), (2, .ref (b 0)), (3, .int v)] [] (K v)) → oV κ (oL x b) 4 (oQL κ) (cmb σ τ) 1271 [(0, .ref b0), (1, .ref (xa x 0)), (2, .ref (b 0)), (3, .int a3)] [] (lt (a3 + (6 : Int32)) K) := by
    intro σ τ K hK
    refine r_iinc (pc := 1271) (v := (6 : Int32)) (lv1 := fun y => [(0, _), (1, _), (2, _), (3, .int y)]) C dL_law_1271 ic_6 3 rfl (by decide) [1, 2, 3, 0] (fun _ => rfl) (fun v => ?_)
    refine r_goto (pc := 1274) (tgt := 18) C dL_law_1274 (by decide) ?_
    exact hK v
  unfold f_law_c10
  refine r_aldn (pc := 542) C dL_law_542 1 rfl ?_
  refine r_aldn (pc := 543) C dL_law_543 0 rfl ?_
  refine r_ildn (pc := 544) C dL_law_544 3 rfl ?_
  refine r_iconst (pc := 545) (v := (1 : Int32)) C dL_law_545 ic_1 ?_
  refine r_iadd (pc := 546) C dL_law_546 ?_
  refine r_sld (pc := 547) C S dL_law_547 ?_
  refine r_LXi (pc := 548) (na := 1) (As := [.int (xs (a3 + (1 : Int32)).toNatClampNeg)]) C (fun l hI => m_X9_untell l _ hI (xs (a3 + (1 : Int32)).toNatClampNeg) σ) gL_law_X9_untell rfl (by decide +kernel) rfl (by decide) (by decide) rfl (Nat.le_of_ble_eq_true rfl) dL_law_548 (fun r1 s2 => ?_)
  refine r_aldn (pc := 551) C dL_law_551 2 rfl ?_
  refine r_aldn (pc := 552) C dL_law_552 0 rfl ?_
  refine r_ildn (pc := 553) C dL_law_553 3 rfl ?_
  refine r_iconst (pc := 554) (v := (1 : Int32)) C dL_law_554 ic_1 ?_
  refine r_iadd (pc := 555) C dL_law_555 ?_
  refine r_sld (pc := 556) C S dL_law_556 ?_
  refine r_LMi (pc := 557) (na := 1) (As := [.int (xs (a3 + (1 : Int32)).toNatClampNeg)]) C (fun l hI => m_X10_untell l _ hI (xs (a3 + (1 : Int32)).toNatClampNeg) τ) gL_law_X10_untell rfl (by decide +kernel) rfl (by decide) (by decide) rfl (Nat.le_of_ble_eq_true rfl) dL_law_557 (fun r3 t4 => ?_)
  refine r_iceq (pc := 560) (tgt := 1271) C dL_law_560 (by decide) ?_ ?_
  · exact back s2 t4 _ (fun v => hrec v _ _)
  · refine r_iconst (pc := 563) (v := (0 : Int32)) C dL_law_563 ic_0 ?_
    exact r_Lret0 C dL_law_564
set_option maxHeartbeats 4000000 in
set_option maxRecDepth 100000 in
theorem v_law_c11 {κ : oK} {x : oXp} {b : Nat → Nat} {b0 L : Nat} {xs : Nat → Int32} (C : oC κ (oL x b) 4 cL_law RL wsL_law 2000 (some .boolean)) (S : oS κ (oL x b) b0 L xs) (hz : lwK κ b0 (oL x b)) (rec : Int32 → Sg → Sg → Option (Int32 × Sg)) (hrec : ∀ (a3 : Int32) (σ τ : Sg), oV κ (oL x b) 4 (oQL κ) (cmb σ τ) 18 [(0, .ref b0), (1, .ref (xa x 0)), (2, .ref (b 0)), (3, .int a3)] [] (rec a3 σ τ)) (a3 : Int32) (σ τ : Sg) : oV κ (oL x b) 4 (oQL κ) (cmb σ τ) 565 [(0, .ref b0), (1, .ref (xa x 0)), (2, .ref (b 0)), (3, .int a3)] [] (f_law_c11 L xs rec a3 σ τ) := by
  have back : ∀ (σ τ : Sg) (K : Int32 → Option (Int32 × Sg)), (∀ v : Int32, oV κ (oL x b) 4 (oQL κ) (cmb σ τ) 18 [(0, .ref b0), (1, .ref (xa x 0)), (2, .ref (b 0)), (3, .int v)] [] (K v)) → oV κ (oL x b) 4 (oQL κ) (cmb σ τ) 1271 [(0, .ref b0), (1, .ref (xa x 0)), (2, .ref (b 0)), (3, .int a3)] [] (lt (a3 + (6 : Int32)) K) := by
    intro σ τ K hK
    refine r_iinc (pc := 1271) (v := (6 : Int32)) (lv1 := fun y => [(0, _), (1, _), (2, _), (3, .int y)]) C dL_law_1271 ic_6 3 rfl (by decide) [1, 2, 3, 0] (fun _ => rfl) (fun v => ?_)
    refine r_goto (pc := 1274) (tgt := 18) C dL_law_1274 (by decide) ?_
    exact hK v
  unfold f_law_c11
  refine r_aldn (pc := 565) C dL_law_565 1 rfl ?_
  refine r_aldn (pc := 566) C dL_law_566 0 rfl ?_
  refine r_ildn (pc := 567) C dL_law_567 3 rfl ?_
  refine r_iconst (pc := 568) (v := (1 : Int32)) C dL_law_568 ic_1 ?_
  refine r_iadd (pc := 569) C dL_law_569 ?_
  refine r_sld (pc := 570) C S dL_law_570 ?_
  refine r_aldn (pc := 571) C dL_law_571 0 rfl ?_
  refine r_ildn (pc := 572) C dL_law_572 3 rfl ?_
  refine r_iconst (pc := 573) (v := (2 : Int32)) C dL_law_573 ic_2 ?_
  refine r_iadd (pc := 574) C dL_law_574 ?_
  refine r_sld (pc := 575) C S dL_law_575 ?_
  refine r_aldn (pc := 576) C dL_law_576 0 rfl ?_
  refine r_ildn (pc := 577) C dL_law_577 3 rfl ?_
  refine r_iconst (pc := 578) (v := (3 : Int32)) C dL_law_578 ic_3 ?_
  refine r_iadd (pc := 579) C dL_law_579 ?_
  refine r_sld (pc := 580) C S dL_law_580 ?_
  refine r_aldn (pc := 581) C dL_law_581 0 rfl ?_
  refine r_ildn (pc := 582) C dL_law_582 3 rfl ?_
  refine r_iconst (pc := 583) (v := (4 : Int32)) C dL_law_583 ic_4 ?_
  refine r_iadd (pc := 584) C dL_law_584 ?_
  refine r_sld (pc := 585) C S dL_law_585 ?_
  refine r_LXi (pc := 586) (na := 4) (As := [.int (xs (a3 + (1 : Int32)).toNatClampNeg), .int (xs (a3 + (2 : Int32)).toNatClampNeg), .int (xs (a3 + (3 : Int32)).toNatClampNeg), .int (xs (a3 + (4 : Int32)).toNatClampNeg)]) C (fun l hI => m_X9_law l _ hI (xs (a3 + (1 : Int32)).toNatClampNeg) (xs (a3 + (2 : Int32)).toNatClampNeg) (xs (a3 + (3 : Int32)).toNatClampNeg) (xs (a3 + (4 : Int32)).toNatClampNeg) σ) gL_law_X9_law rfl (by decide +kernel) rfl (by decide) (by decide) rfl (Nat.le_of_ble_eq_true rfl) dL_law_586 (fun r1 s2 => ?_)
  refine r_aldn (pc := 589) C dL_law_589 2 rfl ?_
  refine r_aldn (pc := 590) C dL_law_590 0 rfl ?_
  refine r_ildn (pc := 591) C dL_law_591 3 rfl ?_
  refine r_iconst (pc := 592) (v := (1 : Int32)) C dL_law_592 ic_1 ?_
  refine r_iadd (pc := 593) C dL_law_593 ?_
  refine r_sld (pc := 594) C S dL_law_594 ?_
  refine r_aldn (pc := 595) C dL_law_595 0 rfl ?_
  refine r_ildn (pc := 596) C dL_law_596 3 rfl ?_
  refine r_iconst (pc := 597) (v := (2 : Int32)) C dL_law_597 ic_2 ?_
  refine r_iadd (pc := 598) C dL_law_598 ?_
  refine r_sld (pc := 599) C S dL_law_599 ?_
  refine r_aldn (pc := 600) C dL_law_600 0 rfl ?_
  refine r_ildn (pc := 601) C dL_law_601 3 rfl ?_
  refine r_iconst (pc := 602) (v := (3 : Int32)) C dL_law_602 ic_3 ?_
  refine r_iadd (pc := 603) C dL_law_603 ?_
  refine r_sld (pc := 604) C S dL_law_604 ?_
  refine r_aldn (pc := 605) C dL_law_605 0 rfl ?_
  refine r_ildn (pc := 606) C dL_law_606 3 rfl ?_
  refine r_iconst (pc := 607) (v := (4 : Int32)) C dL_law_607 ic_4 ?_
  refine r_iadd (pc := 608) C dL_law_608 ?_
  refine r_sld (pc := 609) C S dL_law_609 ?_
  refine r_LMi (pc := 610) (na := 4) (As := [.int (xs (a3 + (1 : Int32)).toNatClampNeg), .int (xs (a3 + (2 : Int32)).toNatClampNeg), .int (xs (a3 + (3 : Int32)).toNatClampNeg), .int (xs (a3 + (4 : Int32)).toNatClampNeg)]) C (fun l hI => m_X10_law l _ hI (xs (a3 + (1 : Int32)).toNatClampNeg) (xs (a3 + (2 : Int32)).toNatClampNeg) (xs (a3 + (3 : Int32)).toNatClampNeg) (xs (a3 + (4 : Int32)).toNatClampNeg) τ) gL_law_X10_law rfl (by decide +kernel) rfl (by decide) (by decide) rfl (Nat.le_of_ble_eq_true rfl) dL_law_610 (fun r3 t4 => ?_)
  refine r_iceq (pc := 613) (tgt := 1271) C dL_law_613 (by decide) ?_ ?_
  · exact back s2 t4 _ (fun v => hrec v _ _)
  · refine r_iconst (pc := 616) (v := (0 : Int32)) C dL_law_616 ic_0 ?_
    exact r_Lret0 C dL_law_617
set_option maxHeartbeats 4000000 in
set_option maxRecDepth 100000 in
theorem v_law_c12 {κ : oK} {x : oXp} {b : Nat → Nat} {b0 L : Nat} {xs : Nat → Int32} (C : oC κ (oL x b) 4 cL_law RL wsL_law 2000 (some .boolean)) (S : oS κ (oL x b) b0 L xs) (hz : lwK κ b0 (oL x b)) (rec : Int32 → Sg → Sg → Option (Int32 × Sg)) (hrec : ∀ (a3 : Int32) (σ τ : Sg), oV κ (oL x b) 4 (oQL κ) (cmb σ τ) 18 [(0, .ref b0), (1, .ref (xa x 0)), (2, .ref (b 0)), (3, .int a3)] [] (rec a3 σ τ)) (a3 : Int32) (σ τ : Sg) : oV κ (oL x b) 4 (oQL κ) (cmb σ τ) 618 [(0, .ref b0), (1, .ref (xa x 0)), (2, .ref (b 0)), (3, .int a3)] [] (f_law_c12 L xs rec a3 σ τ) := by
  have back : ∀ (σ τ : Sg) (K : Int32 → Option (Int32 × Sg)), (∀ v : Int32, oV κ (oL x b) 4 (oQL κ) (cmb σ τ) 18 [(0, .ref b0), (1, .ref (xa x 0)), (2, .ref (b 0)), (3, .int v)] [] (K v)) → oV κ (oL x b) 4 (oQL κ) (cmb σ τ) 1271 [(0, .ref b0), (1, .ref (xa x 0)), (2, .ref (b 0)), (3, .int a3)] [] (lt (a3 + (6 : Int32)) K) := by
    intro σ τ K hK
    refine r_iinc (pc := 1271) (v := (6 : Int32)) (lv1 := fun y => [(0, _), (1, _), (2, _), (3, .int y)]) C dL_law_1271 ic_6 3 rfl (by decide) [1, 2, 3, 0] (fun _ => rfl) (fun v => ?_)
    refine r_goto (pc := 1274) (tgt := 18) C dL_law_1274 (by decide) ?_
    exact hK v
  unfold f_law_c12
  refine r_aldn (pc := 618) C dL_law_618 1 rfl ?_
  refine r_aldn (pc := 619) C dL_law_619 0 rfl ?_
  refine r_ildn (pc := 620) C dL_law_620 3 rfl ?_
  refine r_iconst (pc := 621) (v := (1 : Int32)) C dL_law_621 ic_1 ?_
  refine r_iadd (pc := 622) C dL_law_622 ?_
  refine r_sld (pc := 623) C S dL_law_623 ?_
  refine r_LXi (pc := 624) (na := 1) (As := [.int (xs (a3 + (1 : Int32)).toNatClampNeg)]) C (fun l hI => m_X9_days l _ hI (xs (a3 + (1 : Int32)).toNatClampNeg) σ) gL_law_X9_days rfl (by decide +kernel) rfl (by decide) (by decide) rfl (Nat.le_of_ble_eq_true rfl) dL_law_624 (fun r1 s2 => ?_)
  refine r_aldn (pc := 627) C dL_law_627 2 rfl ?_
  refine r_aldn (pc := 628) C dL_law_628 0 rfl ?_
  refine r_ildn (pc := 629) C dL_law_629 3 rfl ?_
  refine r_iconst (pc := 630) (v := (1 : Int32)) C dL_law_630 ic_1 ?_
  refine r_iadd (pc := 631) C dL_law_631 ?_
  refine r_sld (pc := 632) C S dL_law_632 ?_
  refine r_LMi (pc := 633) (na := 1) (As := [.int (xs (a3 + (1 : Int32)).toNatClampNeg)]) C (fun l hI => m_X10_days l _ hI (xs (a3 + (1 : Int32)).toNatClampNeg) τ) gL_law_X10_days rfl (by decide +kernel) rfl (by decide) (by decide) rfl (Nat.le_of_ble_eq_true rfl) dL_law_633 (fun r3 t4 => ?_)
  refine r_iceq (pc := 636) (tgt := 1271) C dL_law_636 (by decide) ?_ ?_
  · exact back s2 t4 _ (fun v => hrec v _ _)
  · refine r_iconst (pc := 639) (v := (0 : Int32)) C dL_law_639 ic_0 ?_
    exact r_Lret0 C dL_law_640
set_option maxHeartbeats 4000000 in
set_option maxRecDepth 100000 in
theorem v_law_c13 {κ : oK} {x : oXp} {b : Nat → Nat} {b0 L : Nat} {xs : Nat → Int32} (C : oC κ (oL x b) 4 cL_law RL wsL_law 2000 (some .boolean)) (S : oS κ (oL x b) b0 L xs) (hz : lwK κ b0 (oL x b)) (rec : Int32 → Sg → Sg → Option (Int32 × Sg)) (hrec : ∀ (a3 : Int32) (σ τ : Sg), oV κ (oL x b) 4 (oQL κ) (cmb σ τ) 18 [(0, .ref b0), (1, .ref (xa x 0)), (2, .ref (b 0)), (3, .int a3)] [] (rec a3 σ τ)) (a3 : Int32) (σ τ : Sg) : oV κ (oL x b) 4 (oQL κ) (cmb σ τ) 641 [(0, .ref b0), (1, .ref (xa x 0)), (2, .ref (b 0)), (3, .int a3)] [] (f_law_c13 L xs rec a3 σ τ) := by
  have back : ∀ (σ τ : Sg) (K : Int32 → Option (Int32 × Sg)), (∀ v : Int32, oV κ (oL x b) 4 (oQL κ) (cmb σ τ) 18 [(0, .ref b0), (1, .ref (xa x 0)), (2, .ref (b 0)), (3, .int v)] [] (K v)) → oV κ (oL x b) 4 (oQL κ) (cmb σ τ) 1271 [(0, .ref b0), (1, .ref (xa x 0)), (2, .ref (b 0)), (3, .int a3)] [] (lt (a3 + (6 : Int32)) K) := by
    intro σ τ K hK
    refine r_iinc (pc := 1271) (v := (6 : Int32)) (lv1 := fun y => [(0, _), (1, _), (2, _), (3, .int y)]) C dL_law_1271 ic_6 3 rfl (by decide) [1, 2, 3, 0] (fun _ => rfl) (fun v => ?_)
    refine r_goto (pc := 1274) (tgt := 18) C dL_law_1274 (by decide) ?_
    exact hK v
  unfold f_law_c13
  refine r_aldn (pc := 641) C dL_law_641 1 rfl ?_
  refine r_aldn (pc := 642) C dL_law_642 0 rfl ?_
  refine r_ildn (pc := 643) C dL_law_643 3 rfl ?_
  refine r_iconst (pc := 644) (v := (1 : Int32)) C dL_law_644 ic_1 ?_
  refine r_iadd (pc := 645) C dL_law_645 ?_
  refine r_sld (pc := 646) C S dL_law_646 ?_
  refine r_LXi (pc := 647) (na := 1) (As := [.int (xs (a3 + (1 : Int32)).toNatClampNeg)]) C (fun l hI => m_X9_loose l _ hI (xs (a3 + (1 : Int32)).toNatClampNeg) σ) gL_law_X9_loose rfl (by decide +kernel) rfl (by decide) (by decide) rfl (Nat.le_of_ble_eq_true rfl) dL_law_647 (fun r1 s2 => ?_)
  refine r_aldn (pc := 650) C dL_law_650 2 rfl ?_
  refine r_aldn (pc := 651) C dL_law_651 0 rfl ?_
  refine r_ildn (pc := 652) C dL_law_652 3 rfl ?_
  refine r_iconst (pc := 653) (v := (1 : Int32)) C dL_law_653 ic_1 ?_
  refine r_iadd (pc := 654) C dL_law_654 ?_
  refine r_sld (pc := 655) C S dL_law_655 ?_
  refine r_LMi (pc := 656) (na := 1) (As := [.int (xs (a3 + (1 : Int32)).toNatClampNeg)]) C (fun l hI => m_X10_loose l _ hI (xs (a3 + (1 : Int32)).toNatClampNeg) τ) gL_law_X10_loose rfl (by decide +kernel) rfl (by decide) (by decide) rfl (Nat.le_of_ble_eq_true rfl) dL_law_656 (fun r3 t4 => ?_)
  refine r_iceq (pc := 659) (tgt := 1271) C dL_law_659 (by decide) ?_ ?_
  · exact back s2 t4 _ (fun v => hrec v _ _)
  · refine r_iconst (pc := 662) (v := (0 : Int32)) C dL_law_662 ic_0 ?_
    exact r_Lret0 C dL_law_663
set_option maxHeartbeats 4000000 in
set_option maxRecDepth 100000 in
theorem v_law_c14 {κ : oK} {x : oXp} {b : Nat → Nat} {b0 L : Nat} {xs : Nat → Int32} (C : oC κ (oL x b) 4 cL_law RL wsL_law 2000 (some .boolean)) (S : oS κ (oL x b) b0 L xs) (hz : lwK κ b0 (oL x b)) (rec : Int32 → Sg → Sg → Option (Int32 × Sg)) (hrec : ∀ (a3 : Int32) (σ τ : Sg), oV κ (oL x b) 4 (oQL κ) (cmb σ τ) 18 [(0, .ref b0), (1, .ref (xa x 0)), (2, .ref (b 0)), (3, .int a3)] [] (rec a3 σ τ)) (a3 : Int32) (σ τ : Sg) : oV κ (oL x b) 4 (oQL κ) (cmb σ τ) 664 [(0, .ref b0), (1, .ref (xa x 0)), (2, .ref (b 0)), (3, .int a3)] [] (f_law_c14 L xs rec a3 σ τ) := by
  have back : ∀ (σ τ : Sg) (K : Int32 → Option (Int32 × Sg)), (∀ v : Int32, oV κ (oL x b) 4 (oQL κ) (cmb σ τ) 18 [(0, .ref b0), (1, .ref (xa x 0)), (2, .ref (b 0)), (3, .int v)] [] (K v)) → oV κ (oL x b) 4 (oQL κ) (cmb σ τ) 1271 [(0, .ref b0), (1, .ref (xa x 0)), (2, .ref (b 0)), (3, .int a3)] [] (lt (a3 + (6 : Int32)) K) := by
    intro σ τ K hK
    refine r_iinc (pc := 1271) (v := (6 : Int32)) (lv1 := fun y => [(0, _), (1, _), (2, _), (3, .int y)]) C dL_law_1271 ic_6 3 rfl (by decide) [1, 2, 3, 0] (fun _ => rfl) (fun v => ?_)
    refine r_goto (pc := 1274) (tgt := 18) C dL_law_1274 (by decide) ?_
    exact hK v
  unfold f_law_c14
  refine r_aldn (pc := 664) C dL_law_664 1 rfl ?_
  refine r_aldn (pc := 665) C dL_law_665 0 rfl ?_
  refine r_ildn (pc := 666) C dL_law_666 3 rfl ?_
  refine r_iconst (pc := 667) (v := (1 : Int32)) C dL_law_667 ic_1 ?_
  refine r_iadd (pc := 668) C dL_law_668 ?_
  refine r_sld (pc := 669) C S dL_law_669 ?_
  refine r_LXi (pc := 670) (na := 1) (As := [.int (xs (a3 + (1 : Int32)).toNatClampNeg)]) C (fun l hI => m_X9_seed l _ hI (xs (a3 + (1 : Int32)).toNatClampNeg) σ) gL_law_X9_seed rfl (by decide +kernel) rfl (by decide) (by decide) rfl (Nat.le_of_ble_eq_true rfl) dL_law_670 (fun r1 s2 => ?_)
  refine r_aldn (pc := 673) C dL_law_673 2 rfl ?_
  refine r_aldn (pc := 674) C dL_law_674 0 rfl ?_
  refine r_ildn (pc := 675) C dL_law_675 3 rfl ?_
  refine r_iconst (pc := 676) (v := (1 : Int32)) C dL_law_676 ic_1 ?_
  refine r_iadd (pc := 677) C dL_law_677 ?_
  refine r_sld (pc := 678) C S dL_law_678 ?_
  refine r_LMi (pc := 679) (na := 1) (As := [.int (xs (a3 + (1 : Int32)).toNatClampNeg)]) C (fun l hI => m_X10_seed l _ hI (xs (a3 + (1 : Int32)).toNatClampNeg) τ) gL_law_X10_seed rfl (by decide +kernel) rfl (by decide) (by decide) rfl (Nat.le_of_ble_eq_true rfl) dL_law_679 (fun r3 t4 => ?_)
  refine r_iceq (pc := 682) (tgt := 1271) C dL_law_682 (by decide) ?_ ?_
  · exact back s2 t4 _ (fun v => hrec v _ _)
  · refine r_iconst (pc := 685) (v := (0 : Int32)) C dL_law_685 ic_0 ?_
    exact r_Lret0 C dL_law_686
set_option maxHeartbeats 4000000 in
set_option maxRecDepth 100000 in
theorem v_law_c15 {κ : oK} {x : oXp} {b : Nat → Nat} {b0 L : Nat} {xs : Nat → Int32} (C : oC κ (oL x b) 4 cL_law RL wsL_law 2000 (some .boolean)) (S : oS κ (oL x b) b0 L xs) (hz : lwK κ b0 (oL x b)) (rec : Int32 → Sg → Sg → Option (Int32 × Sg)) (hrec : ∀ (a3 : Int32) (σ τ : Sg), oV κ (oL x b) 4 (oQL κ) (cmb σ τ) 18 [(0, .ref b0), (1, .ref (xa x 0)), (2, .ref (b 0)), (3, .int a3)] [] (rec a3 σ τ)) (a3 : Int32) (σ τ : Sg) : oV κ (oL x b) 4 (oQL κ) (cmb σ τ) 687 [(0, .ref b0), (1, .ref (xa x 0)), (2, .ref (b 0)), (3, .int a3)] [] (f_law_c15 L xs rec a3 σ τ) := by
  have back : ∀ (σ τ : Sg) (K : Int32 → Option (Int32 × Sg)), (∀ v : Int32, oV κ (oL x b) 4 (oQL κ) (cmb σ τ) 18 [(0, .ref b0), (1, .ref (xa x 0)), (2, .ref (b 0)), (3, .int v)] [] (K v)) → oV κ (oL x b) 4 (oQL κ) (cmb σ τ) 1271 [(0, .ref b0), (1, .ref (xa x 0)), (2, .ref (b 0)), (3, .int a3)] [] (lt (a3 + (6 : Int32)) K) := by
    intro σ τ K hK
    refine r_iinc (pc := 1271) (v := (6 : Int32)) (lv1 := fun y => [(0, _), (1, _), (2, _), (3, .int y)]) C dL_law_1271 ic_6 3 rfl (by decide) [1, 2, 3, 0] (fun _ => rfl) (fun v => ?_)
    refine r_goto (pc := 1274) (tgt := 18) C dL_law_1274 (by decide) ?_
    exact hK v
  unfold f_law_c15
  refine r_aldn (pc := 687) C dL_law_687 1 rfl ?_
  refine r_aldn (pc := 688) C dL_law_688 0 rfl ?_
  refine r_ildn (pc := 689) C dL_law_689 3 rfl ?_
  refine r_iconst (pc := 690) (v := (1 : Int32)) C dL_law_690 ic_1 ?_
  refine r_iadd (pc := 691) C dL_law_691 ?_
  refine r_sld (pc := 692) C S dL_law_692 ?_
  refine r_LXi (pc := 693) (na := 1) (As := [.int (xs (a3 + (1 : Int32)).toNatClampNeg)]) C (fun l hI => m_X9_free l _ hI (xs (a3 + (1 : Int32)).toNatClampNeg) σ) gL_law_X9_free rfl (by decide +kernel) rfl (by decide) (by decide) rfl (Nat.le_of_ble_eq_true rfl) dL_law_693 (fun r1 s2 => ?_)
  refine r_aldn (pc := 696) C dL_law_696 2 rfl ?_
  refine r_aldn (pc := 697) C dL_law_697 0 rfl ?_
  refine r_ildn (pc := 698) C dL_law_698 3 rfl ?_
  refine r_iconst (pc := 699) (v := (1 : Int32)) C dL_law_699 ic_1 ?_
  refine r_iadd (pc := 700) C dL_law_700 ?_
  refine r_sld (pc := 701) C S dL_law_701 ?_
  refine r_LMi (pc := 702) (na := 1) (As := [.int (xs (a3 + (1 : Int32)).toNatClampNeg)]) C (fun l hI => m_X10_free l _ hI (xs (a3 + (1 : Int32)).toNatClampNeg) τ) gL_law_X10_free rfl (by decide +kernel) rfl (by decide) (by decide) rfl (Nat.le_of_ble_eq_true rfl) dL_law_702 (fun r3 t4 => ?_)
  refine r_iceq (pc := 705) (tgt := 1271) C dL_law_705 (by decide) ?_ ?_
  · exact back s2 t4 _ (fun v => hrec v _ _)
  · refine r_iconst (pc := 708) (v := (0 : Int32)) C dL_law_708 ic_0 ?_
    exact r_Lret0 C dL_law_709
set_option maxHeartbeats 4000000 in
set_option maxRecDepth 100000 in
theorem v_law_c16 {κ : oK} {x : oXp} {b : Nat → Nat} {b0 L : Nat} {xs : Nat → Int32} (C : oC κ (oL x b) 4 cL_law RL wsL_law 2000 (some .boolean)) (S : oS κ (oL x b) b0 L xs) (hz : lwK κ b0 (oL x b)) (rec : Int32 → Sg → Sg → Option (Int32 × Sg)) (hrec : ∀ (a3 : Int32) (σ τ : Sg), oV κ (oL x b) 4 (oQL κ) (cmb σ τ) 18 [(0, .ref b0), (1, .ref (xa x 0)), (2, .ref (b 0)), (3, .int a3)] [] (rec a3 σ τ)) (a3 : Int32) (σ τ : Sg) : oV κ (oL x b) 4 (oQL κ) (cmb σ τ) 710 [(0, .ref b0), (1, .ref (xa x 0)), (2, .ref (b 0)), (3, .int a3)] [] (f_law_c16 L xs rec a3 σ τ) := by
  have back : ∀ (σ τ : Sg) (K : Int32 → Option (Int32 × Sg)), (∀ v : Int32, oV κ (oL x b) 4 (oQL κ) (cmb σ τ) 18 [(0, .ref b0), (1, .ref (xa x 0)), (2, .ref (b 0)), (3, .int v)] [] (K v)) → oV κ (oL x b) 4 (oQL κ) (cmb σ τ) 1271 [(0, .ref b0), (1, .ref (xa x 0)), (2, .ref (b 0)), (3, .int a3)] [] (lt (a3 + (6 : Int32)) K) := by
    intro σ τ K hK
    refine r_iinc (pc := 1271) (v := (6 : Int32)) (lv1 := fun y => [(0, _), (1, _), (2, _), (3, .int y)]) C dL_law_1271 ic_6 3 rfl (by decide) [1, 2, 3, 0] (fun _ => rfl) (fun v => ?_)
    refine r_goto (pc := 1274) (tgt := 18) C dL_law_1274 (by decide) ?_
    exact hK v
  unfold f_law_c16
  refine r_aldn (pc := 710) C dL_law_710 1 rfl ?_
  refine r_aldn (pc := 711) C dL_law_711 0 rfl ?_
  refine r_ildn (pc := 712) C dL_law_712 3 rfl ?_
  refine r_iconst (pc := 713) (v := (1 : Int32)) C dL_law_713 ic_1 ?_
  refine r_iadd (pc := 714) C dL_law_714 ?_
  refine r_sld (pc := 715) C S dL_law_715 ?_
  refine r_LXi (pc := 716) (na := 1) (As := [.int (xs (a3 + (1 : Int32)).toNatClampNeg)]) C (fun l hI => m_X9_of l _ hI (xs (a3 + (1 : Int32)).toNatClampNeg) σ) gL_law_X9_of rfl (by decide +kernel) rfl (by decide) (by decide) rfl (Nat.le_of_ble_eq_true rfl) dL_law_716 (fun r1 s2 => ?_)
  refine r_aldn (pc := 719) C dL_law_719 2 rfl ?_
  refine r_aldn (pc := 720) C dL_law_720 0 rfl ?_
  refine r_ildn (pc := 721) C dL_law_721 3 rfl ?_
  refine r_iconst (pc := 722) (v := (1 : Int32)) C dL_law_722 ic_1 ?_
  refine r_iadd (pc := 723) C dL_law_723 ?_
  refine r_sld (pc := 724) C S dL_law_724 ?_
  refine r_LMi (pc := 725) (na := 1) (As := [.int (xs (a3 + (1 : Int32)).toNatClampNeg)]) C (fun l hI => m_X10_of l _ hI (xs (a3 + (1 : Int32)).toNatClampNeg) τ) gL_law_X10_of rfl (by decide +kernel) rfl (by decide) (by decide) rfl (Nat.le_of_ble_eq_true rfl) dL_law_725 (fun r3 t4 => ?_)
  refine r_iceq (pc := 728) (tgt := 1271) C dL_law_728 (by decide) ?_ ?_
  · exact back s2 t4 _ (fun v => hrec v _ _)
  · refine r_iconst (pc := 731) (v := (0 : Int32)) C dL_law_731 ic_0 ?_
    exact r_Lret0 C dL_law_732
set_option maxHeartbeats 4000000 in
set_option maxRecDepth 100000 in
theorem v_law_c17 {κ : oK} {x : oXp} {b : Nat → Nat} {b0 L : Nat} {xs : Nat → Int32} (C : oC κ (oL x b) 4 cL_law RL wsL_law 2000 (some .boolean)) (S : oS κ (oL x b) b0 L xs) (hz : lwK κ b0 (oL x b)) (rec : Int32 → Sg → Sg → Option (Int32 × Sg)) (hrec : ∀ (a3 : Int32) (σ τ : Sg), oV κ (oL x b) 4 (oQL κ) (cmb σ τ) 18 [(0, .ref b0), (1, .ref (xa x 0)), (2, .ref (b 0)), (3, .int a3)] [] (rec a3 σ τ)) (a3 : Int32) (σ τ : Sg) : oV κ (oL x b) 4 (oQL κ) (cmb σ τ) 733 [(0, .ref b0), (1, .ref (xa x 0)), (2, .ref (b 0)), (3, .int a3)] [] (f_law_c17 L xs rec a3 σ τ) := by
  have back : ∀ (σ τ : Sg) (K : Int32 → Option (Int32 × Sg)), (∀ v : Int32, oV κ (oL x b) 4 (oQL κ) (cmb σ τ) 18 [(0, .ref b0), (1, .ref (xa x 0)), (2, .ref (b 0)), (3, .int v)] [] (K v)) → oV κ (oL x b) 4 (oQL κ) (cmb σ τ) 1271 [(0, .ref b0), (1, .ref (xa x 0)), (2, .ref (b 0)), (3, .int a3)] [] (lt (a3 + (6 : Int32)) K) := by
    intro σ τ K hK
    refine r_iinc (pc := 1271) (v := (6 : Int32)) (lv1 := fun y => [(0, _), (1, _), (2, _), (3, .int y)]) C dL_law_1271 ic_6 3 rfl (by decide) [1, 2, 3, 0] (fun _ => rfl) (fun v => ?_)
    refine r_goto (pc := 1274) (tgt := 18) C dL_law_1274 (by decide) ?_
    exact hK v
  unfold f_law_c17
  refine r_aldn (pc := 733) C dL_law_733 1 rfl ?_
  refine r_aldn (pc := 734) C dL_law_734 0 rfl ?_
  refine r_ildn (pc := 735) C dL_law_735 3 rfl ?_
  refine r_iconst (pc := 736) (v := (1 : Int32)) C dL_law_736 ic_1 ?_
  refine r_iadd (pc := 737) C dL_law_737 ?_
  refine r_sld (pc := 738) C S dL_law_738 ?_
  refine r_aldn (pc := 739) C dL_law_739 0 rfl ?_
  refine r_ildn (pc := 740) C dL_law_740 3 rfl ?_
  refine r_iconst (pc := 741) (v := (2 : Int32)) C dL_law_741 ic_2 ?_
  refine r_iadd (pc := 742) C dL_law_742 ?_
  refine r_sld (pc := 743) C S dL_law_743 ?_
  refine r_LXi (pc := 744) (na := 2) (As := [.int (xs (a3 + (1 : Int32)).toNatClampNeg), .int (xs (a3 + (2 : Int32)).toNatClampNeg)]) C (fun l hI => m_X9_room l _ hI (xs (a3 + (1 : Int32)).toNatClampNeg) (xs (a3 + (2 : Int32)).toNatClampNeg) σ) gL_law_X9_room rfl (by decide +kernel) rfl (by decide) (by decide) rfl (Nat.le_of_ble_eq_true rfl) dL_law_744 (fun r1 s2 => ?_)
  refine r_aldn (pc := 747) C dL_law_747 2 rfl ?_
  refine r_aldn (pc := 748) C dL_law_748 0 rfl ?_
  refine r_ildn (pc := 749) C dL_law_749 3 rfl ?_
  refine r_iconst (pc := 750) (v := (1 : Int32)) C dL_law_750 ic_1 ?_
  refine r_iadd (pc := 751) C dL_law_751 ?_
  refine r_sld (pc := 752) C S dL_law_752 ?_
  refine r_aldn (pc := 753) C dL_law_753 0 rfl ?_
  refine r_ildn (pc := 754) C dL_law_754 3 rfl ?_
  refine r_iconst (pc := 755) (v := (2 : Int32)) C dL_law_755 ic_2 ?_
  refine r_iadd (pc := 756) C dL_law_756 ?_
  refine r_sld (pc := 757) C S dL_law_757 ?_
  refine r_LMi (pc := 758) (na := 2) (As := [.int (xs (a3 + (1 : Int32)).toNatClampNeg), .int (xs (a3 + (2 : Int32)).toNatClampNeg)]) C (fun l hI => m_X10_room l _ hI (xs (a3 + (1 : Int32)).toNatClampNeg) (xs (a3 + (2 : Int32)).toNatClampNeg) τ) gL_law_X10_room rfl (by decide +kernel) rfl (by decide) (by decide) rfl (Nat.le_of_ble_eq_true rfl) dL_law_758 (fun r3 t4 => ?_)
  refine r_iceq (pc := 761) (tgt := 1271) C dL_law_761 (by decide) ?_ ?_
  · exact back s2 t4 _ (fun v => hrec v _ _)
  · refine r_iconst (pc := 764) (v := (0 : Int32)) C dL_law_764 ic_0 ?_
    exact r_Lret0 C dL_law_765
set_option maxHeartbeats 4000000 in
set_option maxRecDepth 100000 in
theorem v_law_c18 {κ : oK} {x : oXp} {b : Nat → Nat} {b0 L : Nat} {xs : Nat → Int32} (C : oC κ (oL x b) 4 cL_law RL wsL_law 2000 (some .boolean)) (S : oS κ (oL x b) b0 L xs) (hz : lwK κ b0 (oL x b)) (rec : Int32 → Sg → Sg → Option (Int32 × Sg)) (hrec : ∀ (a3 : Int32) (σ τ : Sg), oV κ (oL x b) 4 (oQL κ) (cmb σ τ) 18 [(0, .ref b0), (1, .ref (xa x 0)), (2, .ref (b 0)), (3, .int a3)] [] (rec a3 σ τ)) (a3 : Int32) (σ τ : Sg) : oV κ (oL x b) 4 (oQL κ) (cmb σ τ) 766 [(0, .ref b0), (1, .ref (xa x 0)), (2, .ref (b 0)), (3, .int a3)] [] (f_law_c18 L xs rec a3 σ τ) := by
  have back : ∀ (σ τ : Sg) (K : Int32 → Option (Int32 × Sg)), (∀ v : Int32, oV κ (oL x b) 4 (oQL κ) (cmb σ τ) 18 [(0, .ref b0), (1, .ref (xa x 0)), (2, .ref (b 0)), (3, .int v)] [] (K v)) → oV κ (oL x b) 4 (oQL κ) (cmb σ τ) 1271 [(0, .ref b0), (1, .ref (xa x 0)), (2, .ref (b 0)), (3, .int a3)] [] (lt (a3 + (6 : Int32)) K) := by
    intro σ τ K hK
    refine r_iinc (pc := 1271) (v := (6 : Int32)) (lv1 := fun y => [(0, _), (1, _), (2, _), (3, .int y)]) C dL_law_1271 ic_6 3 rfl (by decide) [1, 2, 3, 0] (fun _ => rfl) (fun v => ?_)
    refine r_goto (pc := 1274) (tgt := 18) C dL_law_1274 (by decide) ?_
    exact hK v
  unfold f_law_c18
  refine r_aldn (pc := 766) C dL_law_766 1 rfl ?_
  refine r_aldn (pc := 767) C dL_law_767 0 rfl ?_
  refine r_ildn (pc := 768) C dL_law_768 3 rfl ?_
  refine r_iconst (pc := 769) (v := (1 : Int32)) C dL_law_769 ic_1 ?_
  refine r_iadd (pc := 770) C dL_law_770 ?_
  refine r_sld (pc := 771) C S dL_law_771 ?_
  refine r_aldn (pc := 772) C dL_law_772 0 rfl ?_
  refine r_ildn (pc := 773) C dL_law_773 3 rfl ?_
  refine r_iconst (pc := 774) (v := (2 : Int32)) C dL_law_774 ic_2 ?_
  refine r_iadd (pc := 775) C dL_law_775 ?_
  refine r_sld (pc := 776) C S dL_law_776 ?_
  refine r_LXi (pc := 777) (na := 2) (As := [.int (xs (a3 + (1 : Int32)).toNatClampNeg), .int (xs (a3 + (2 : Int32)).toNatClampNeg)]) C (fun l hI => m_X9_when l _ hI (xs (a3 + (1 : Int32)).toNatClampNeg) (xs (a3 + (2 : Int32)).toNatClampNeg) σ) gL_law_X9_when rfl (by decide +kernel) rfl (by decide) (by decide) rfl (Nat.le_of_ble_eq_true rfl) dL_law_777 (fun r1 s2 => ?_)
  refine r_aldn (pc := 780) C dL_law_780 2 rfl ?_
  refine r_aldn (pc := 781) C dL_law_781 0 rfl ?_
  refine r_ildn (pc := 782) C dL_law_782 3 rfl ?_
  refine r_iconst (pc := 783) (v := (1 : Int32)) C dL_law_783 ic_1 ?_
  refine r_iadd (pc := 784) C dL_law_784 ?_
  refine r_sld (pc := 785) C S dL_law_785 ?_
  refine r_aldn (pc := 786) C dL_law_786 0 rfl ?_
  refine r_ildn (pc := 787) C dL_law_787 3 rfl ?_
  refine r_iconst (pc := 788) (v := (2 : Int32)) C dL_law_788 ic_2 ?_
  refine r_iadd (pc := 789) C dL_law_789 ?_
  refine r_sld (pc := 790) C S dL_law_790 ?_
  refine r_LMi (pc := 791) (na := 2) (As := [.int (xs (a3 + (1 : Int32)).toNatClampNeg), .int (xs (a3 + (2 : Int32)).toNatClampNeg)]) C (fun l hI => m_X10_when l _ hI (xs (a3 + (1 : Int32)).toNatClampNeg) (xs (a3 + (2 : Int32)).toNatClampNeg) τ) gL_law_X10_when rfl (by decide +kernel) rfl (by decide) (by decide) rfl (Nat.le_of_ble_eq_true rfl) dL_law_791 (fun r3 t4 => ?_)
  refine r_iceq (pc := 794) (tgt := 1271) C dL_law_794 (by decide) ?_ ?_
  · exact back s2 t4 _ (fun v => hrec v _ _)
  · refine r_iconst (pc := 797) (v := (0 : Int32)) C dL_law_797 ic_0 ?_
    exact r_Lret0 C dL_law_798
set_option maxHeartbeats 4000000 in
set_option maxRecDepth 100000 in
theorem v_law_c19 {κ : oK} {x : oXp} {b : Nat → Nat} {b0 L : Nat} {xs : Nat → Int32} (C : oC κ (oL x b) 4 cL_law RL wsL_law 2000 (some .boolean)) (S : oS κ (oL x b) b0 L xs) (hz : lwK κ b0 (oL x b)) (rec : Int32 → Sg → Sg → Option (Int32 × Sg)) (hrec : ∀ (a3 : Int32) (σ τ : Sg), oV κ (oL x b) 4 (oQL κ) (cmb σ τ) 18 [(0, .ref b0), (1, .ref (xa x 0)), (2, .ref (b 0)), (3, .int a3)] [] (rec a3 σ τ)) (a3 : Int32) (σ τ : Sg) : oV κ (oL x b) 4 (oQL κ) (cmb σ τ) 799 [(0, .ref b0), (1, .ref (xa x 0)), (2, .ref (b 0)), (3, .int a3)] [] (f_law_c19 L xs rec a3 σ τ) := by
  have back : ∀ (σ τ : Sg) (K : Int32 → Option (Int32 × Sg)), (∀ v : Int32, oV κ (oL x b) 4 (oQL κ) (cmb σ τ) 18 [(0, .ref b0), (1, .ref (xa x 0)), (2, .ref (b 0)), (3, .int v)] [] (K v)) → oV κ (oL x b) 4 (oQL κ) (cmb σ τ) 1271 [(0, .ref b0), (1, .ref (xa x 0)), (2, .ref (b 0)), (3, .int a3)] [] (lt (a3 + (6 : Int32)) K) := by
    intro σ τ K hK
    refine r_iinc (pc := 1271) (v := (6 : Int32)) (lv1 := fun y => [(0, _), (1, _), (2, _), (3, .int y)]) C dL_law_1271 ic_6 3 rfl (by decide) [1, 2, 3, 0] (fun _ => rfl) (fun v => ?_)
    refine r_goto (pc := 1274) (tgt := 18) C dL_law_1274 (by decide) ?_
    exact hK v
  unfold f_law_c19
  refine r_aldn (pc := 799) C dL_law_799 1 rfl ?_
  refine r_aldn (pc := 800) C dL_law_800 0 rfl ?_
  refine r_ildn (pc := 801) C dL_law_801 3 rfl ?_
  refine r_iconst (pc := 802) (v := (1 : Int32)) C dL_law_802 ic_1 ?_
  refine r_iadd (pc := 803) C dL_law_803 ?_
  refine r_sld (pc := 804) C S dL_law_804 ?_
  refine r_LXi (pc := 805) (na := 1) (As := [.int (xs (a3 + (1 : Int32)).toNatClampNeg)]) C (fun l hI => m_X9_clears l _ hI (xs (a3 + (1 : Int32)).toNatClampNeg) σ) gL_law_X9_clears rfl (by decide +kernel) rfl (by decide) (by decide) rfl (Nat.le_of_ble_eq_true rfl) dL_law_805 (fun r1 s2 => ?_)
  refine r_aldn (pc := 808) C dL_law_808 2 rfl ?_
  refine r_aldn (pc := 809) C dL_law_809 0 rfl ?_
  refine r_ildn (pc := 810) C dL_law_810 3 rfl ?_
  refine r_iconst (pc := 811) (v := (1 : Int32)) C dL_law_811 ic_1 ?_
  refine r_iadd (pc := 812) C dL_law_812 ?_
  refine r_sld (pc := 813) C S dL_law_813 ?_
  refine r_LMi (pc := 814) (na := 1) (As := [.int (xs (a3 + (1 : Int32)).toNatClampNeg)]) C (fun l hI => m_X10_clears l _ hI (xs (a3 + (1 : Int32)).toNatClampNeg) τ) gL_law_X10_clears rfl (by decide +kernel) rfl (by decide) (by decide) rfl (Nat.le_of_ble_eq_true rfl) dL_law_814 (fun r3 t4 => ?_)
  refine r_iceq (pc := 817) (tgt := 1271) C dL_law_817 (by decide) ?_ ?_
  · exact back s2 t4 _ (fun v => hrec v _ _)
  · refine r_iconst (pc := 820) (v := (0 : Int32)) C dL_law_820 ic_0 ?_
    exact r_Lret0 C dL_law_821
set_option maxHeartbeats 4000000 in
set_option maxRecDepth 100000 in
theorem v_law_c20 {κ : oK} {x : oXp} {b : Nat → Nat} {b0 L : Nat} {xs : Nat → Int32} (C : oC κ (oL x b) 4 cL_law RL wsL_law 2000 (some .boolean)) (S : oS κ (oL x b) b0 L xs) (hz : lwK κ b0 (oL x b)) (rec : Int32 → Sg → Sg → Option (Int32 × Sg)) (hrec : ∀ (a3 : Int32) (σ τ : Sg), oV κ (oL x b) 4 (oQL κ) (cmb σ τ) 18 [(0, .ref b0), (1, .ref (xa x 0)), (2, .ref (b 0)), (3, .int a3)] [] (rec a3 σ τ)) (a3 : Int32) (σ τ : Sg) : oV κ (oL x b) 4 (oQL κ) (cmb σ τ) 822 [(0, .ref b0), (1, .ref (xa x 0)), (2, .ref (b 0)), (3, .int a3)] [] (f_law_c20 L xs rec a3 σ τ) := by
  have back : ∀ (σ τ : Sg) (K : Int32 → Option (Int32 × Sg)), (∀ v : Int32, oV κ (oL x b) 4 (oQL κ) (cmb σ τ) 18 [(0, .ref b0), (1, .ref (xa x 0)), (2, .ref (b 0)), (3, .int v)] [] (K v)) → oV κ (oL x b) 4 (oQL κ) (cmb σ τ) 1271 [(0, .ref b0), (1, .ref (xa x 0)), (2, .ref (b 0)), (3, .int a3)] [] (lt (a3 + (6 : Int32)) K) := by
    intro σ τ K hK
    refine r_iinc (pc := 1271) (v := (6 : Int32)) (lv1 := fun y => [(0, _), (1, _), (2, _), (3, .int y)]) C dL_law_1271 ic_6 3 rfl (by decide) [1, 2, 3, 0] (fun _ => rfl) (fun v => ?_)
    refine r_goto (pc := 1274) (tgt := 18) C dL_law_1274 (by decide) ?_
    exact hK v
  unfold f_law_c20
  refine r_aldn (pc := 822) C dL_law_822 1 rfl ?_
  refine r_aldn (pc := 823) C dL_law_823 0 rfl ?_
  refine r_ildn (pc := 824) C dL_law_824 3 rfl ?_
  refine r_iconst (pc := 825) (v := (1 : Int32)) C dL_law_825 ic_1 ?_
  refine r_iadd (pc := 826) C dL_law_826 ?_
  refine r_sld (pc := 827) C S dL_law_827 ?_
  refine r_LXi (pc := 828) (na := 1) (As := [.int (xs (a3 + (1 : Int32)).toNatClampNeg)]) C (fun l hI => m_X9_parts l _ hI (xs (a3 + (1 : Int32)).toNatClampNeg) σ) gL_law_X9_parts rfl (by decide +kernel) rfl (by decide) (by decide) rfl (Nat.le_of_ble_eq_true rfl) dL_law_828 (fun r1 s2 => ?_)
  refine r_aldn (pc := 831) C dL_law_831 2 rfl ?_
  refine r_aldn (pc := 832) C dL_law_832 0 rfl ?_
  refine r_ildn (pc := 833) C dL_law_833 3 rfl ?_
  refine r_iconst (pc := 834) (v := (1 : Int32)) C dL_law_834 ic_1 ?_
  refine r_iadd (pc := 835) C dL_law_835 ?_
  refine r_sld (pc := 836) C S dL_law_836 ?_
  refine r_LMi (pc := 837) (na := 1) (As := [.int (xs (a3 + (1 : Int32)).toNatClampNeg)]) C (fun l hI => m_X10_parts l _ hI (xs (a3 + (1 : Int32)).toNatClampNeg) τ) gL_law_X10_parts rfl (by decide +kernel) rfl (by decide) (by decide) rfl (Nat.le_of_ble_eq_true rfl) dL_law_837 (fun r3 t4 => ?_)
  refine r_iceq (pc := 840) (tgt := 1271) C dL_law_840 (by decide) ?_ ?_
  · exact back s2 t4 _ (fun v => hrec v _ _)
  · refine r_iconst (pc := 843) (v := (0 : Int32)) C dL_law_843 ic_0 ?_
    exact r_Lret0 C dL_law_844
set_option maxHeartbeats 4000000 in
set_option maxRecDepth 100000 in
theorem v_law_c21 {κ : oK} {x : oXp} {b : Nat → Nat} {b0 L : Nat} {xs : Nat → Int32} (C : oC κ (oL x b) 4 cL_law RL wsL_law 2000 (some .boolean)) (S : oS κ (oL x b) b0 L xs) (hz : lwK κ b0 (oL x b)) (rec : Int32 → Sg → Sg → Option (Int32 × Sg)) (hrec : ∀ (a3 : Int32) (σ τ : Sg), oV κ (oL x b) 4 (oQL κ) (cmb σ τ) 18 [(0, .ref b0), (1, .ref (xa x 0)), (2, .ref (b 0)), (3, .int a3)] [] (rec a3 σ τ)) (a3 : Int32) (σ τ : Sg) : oV κ (oL x b) 4 (oQL κ) (cmb σ τ) 845 [(0, .ref b0), (1, .ref (xa x 0)), (2, .ref (b 0)), (3, .int a3)] [] (f_law_c21 L xs rec a3 σ τ) := by
  have back : ∀ (σ τ : Sg) (K : Int32 → Option (Int32 × Sg)), (∀ v : Int32, oV κ (oL x b) 4 (oQL κ) (cmb σ τ) 18 [(0, .ref b0), (1, .ref (xa x 0)), (2, .ref (b 0)), (3, .int v)] [] (K v)) → oV κ (oL x b) 4 (oQL κ) (cmb σ τ) 1271 [(0, .ref b0), (1, .ref (xa x 0)), (2, .ref (b 0)), (3, .int a3)] [] (lt (a3 + (6 : Int32)) K) := by
    intro σ τ K hK
    refine r_iinc (pc := 1271) (v := (6 : Int32)) (lv1 := fun y => [(0, _), (1, _), (2, _), (3, .int y)]) C dL_law_1271 ic_6 3 rfl (by decide) [1, 2, 3, 0] (fun _ => rfl) (fun v => ?_)
    refine r_goto (pc := 1274) (tgt := 18) C dL_law_1274 (by decide) ?_
    exact hK v
  unfold f_law_c21
  refine r_aldn (pc := 845) C dL_law_845 1 rfl ?_
  refine r_aldn (pc := 846) C dL_law_846 0 rfl ?_
  refine r_ildn (pc := 847) C dL_law_847 3 rfl ?_
  refine r_iconst (pc := 848) (v := (1 : Int32)) C dL_law_848 ic_1 ?_
  refine r_iadd (pc := 849) C dL_law_849 ?_
  refine r_sld (pc := 850) C S dL_law_850 ?_
  refine r_aldn (pc := 851) C dL_law_851 0 rfl ?_
  refine r_ildn (pc := 852) C dL_law_852 3 rfl ?_
  refine r_iconst (pc := 853) (v := (2 : Int32)) C dL_law_853 ic_2 ?_
  refine r_iadd (pc := 854) C dL_law_854 ?_
  refine r_sld (pc := 855) C S dL_law_855 ?_
  refine r_LXl (pc := 856) (na := 2) (As := [.int (xs (a3 + (1 : Int32)).toNatClampNeg), .int (xs (a3 + (2 : Int32)).toNatClampNeg)]) C (fun l hI => m_X9_odds l _ hI (xs (a3 + (1 : Int32)).toNatClampNeg) (xs (a3 + (2 : Int32)).toNatClampNeg) σ) gL_law_X9_odds rfl (by decide +kernel) rfl (by decide) (by decide) rfl (Nat.le_of_ble_eq_true rfl) dL_law_856 (fun r1 s2 => ?_)
  refine r_aldn (pc := 859) C dL_law_859 2 rfl ?_
  refine r_aldn (pc := 860) C dL_law_860 0 rfl ?_
  refine r_ildn (pc := 861) C dL_law_861 3 rfl ?_
  refine r_iconst (pc := 862) (v := (1 : Int32)) C dL_law_862 ic_1 ?_
  refine r_iadd (pc := 863) C dL_law_863 ?_
  refine r_sld (pc := 864) C S dL_law_864 ?_
  refine r_aldn (pc := 865) C dL_law_865 0 rfl ?_
  refine r_ildn (pc := 866) C dL_law_866 3 rfl ?_
  refine r_iconst (pc := 867) (v := (2 : Int32)) C dL_law_867 ic_2 ?_
  refine r_iadd (pc := 868) C dL_law_868 ?_
  refine r_sld (pc := 869) C S dL_law_869 ?_
  refine r_LMl (pc := 870) (na := 2) (As := [.int (xs (a3 + (1 : Int32)).toNatClampNeg), .int (xs (a3 + (2 : Int32)).toNatClampNeg)]) C (fun l hI => m_X10_odds l _ hI (xs (a3 + (1 : Int32)).toNatClampNeg) (xs (a3 + (2 : Int32)).toNatClampNeg) τ) gL_law_X10_odds rfl (by decide +kernel) rfl (by decide) (by decide) rfl (Nat.le_of_ble_eq_true rfl) dL_law_870 (fun r3 t4 => ?_)
  refine r_lcmp (pc := 873) C dL_law_873 ?_
  refine r_ifeq (pc := 874) (tgt := 1271) C dL_law_874 (by decide) ?_ ?_
  · exact back s2 t4 _ (fun v => hrec v _ _)
  · refine r_iconst (pc := 877) (v := (0 : Int32)) C dL_law_877 ic_0 ?_
    exact r_Lret0 C dL_law_878
set_option maxHeartbeats 4000000 in
set_option maxRecDepth 100000 in
theorem v_law_c22 {κ : oK} {x : oXp} {b : Nat → Nat} {b0 L : Nat} {xs : Nat → Int32} (C : oC κ (oL x b) 4 cL_law RL wsL_law 2000 (some .boolean)) (S : oS κ (oL x b) b0 L xs) (hz : lwK κ b0 (oL x b)) (rec : Int32 → Sg → Sg → Option (Int32 × Sg)) (hrec : ∀ (a3 : Int32) (σ τ : Sg), oV κ (oL x b) 4 (oQL κ) (cmb σ τ) 18 [(0, .ref b0), (1, .ref (xa x 0)), (2, .ref (b 0)), (3, .int a3)] [] (rec a3 σ τ)) (a3 : Int32) (σ τ : Sg) : oV κ (oL x b) 4 (oQL κ) (cmb σ τ) 879 [(0, .ref b0), (1, .ref (xa x 0)), (2, .ref (b 0)), (3, .int a3)] [] (f_law_c22 L xs rec a3 σ τ) := by
  have back : ∀ (σ τ : Sg) (K : Int32 → Option (Int32 × Sg)), (∀ v : Int32, oV κ (oL x b) 4 (oQL κ) (cmb σ τ) 18 [(0, .ref b0), (1, .ref (xa x 0)), (2, .ref (b 0)), (3, .int v)] [] (K v)) → oV κ (oL x b) 4 (oQL κ) (cmb σ τ) 1271 [(0, .ref b0), (1, .ref (xa x 0)), (2, .ref (b 0)), (3, .int a3)] [] (lt (a3 + (6 : Int32)) K) := by
    intro σ τ K hK
    refine r_iinc (pc := 1271) (v := (6 : Int32)) (lv1 := fun y => [(0, _), (1, _), (2, _), (3, .int y)]) C dL_law_1271 ic_6 3 rfl (by decide) [1, 2, 3, 0] (fun _ => rfl) (fun v => ?_)
    refine r_goto (pc := 1274) (tgt := 18) C dL_law_1274 (by decide) ?_
    exact hK v
  unfold f_law_c22
  refine r_aldn (pc := 879) C dL_law_879 1 rfl ?_
  refine r_aldn (pc := 880) C dL_law_880 0 rfl ?_
  refine r_ildn (pc := 881) C dL_law_881 3 rfl ?_
  refine r_iconst (pc := 882) (v := (1 : Int32)) C dL_law_882 ic_1 ?_
  refine r_iadd (pc := 883) C dL_law_883 ?_
  refine r_sld (pc := 884) C S dL_law_884 ?_
  refine r_LXi (pc := 885) (na := 1) (As := [.int (xs (a3 + (1 : Int32)).toNatClampNeg)]) C (fun l hI => m_X9_fits l _ hI (xs (a3 + (1 : Int32)).toNatClampNeg) σ) gL_law_X9_fits rfl (by decide +kernel) rfl (by decide) (by decide) rfl (Nat.le_of_ble_eq_true rfl) dL_law_885 (fun r1 s2 => ?_)
  refine r_aldn (pc := 888) C dL_law_888 2 rfl ?_
  refine r_aldn (pc := 889) C dL_law_889 0 rfl ?_
  refine r_ildn (pc := 890) C dL_law_890 3 rfl ?_
  refine r_iconst (pc := 891) (v := (1 : Int32)) C dL_law_891 ic_1 ?_
  refine r_iadd (pc := 892) C dL_law_892 ?_
  refine r_sld (pc := 893) C S dL_law_893 ?_
  refine r_LMi (pc := 894) (na := 1) (As := [.int (xs (a3 + (1 : Int32)).toNatClampNeg)]) C (fun l hI => m_X10_fits l _ hI (xs (a3 + (1 : Int32)).toNatClampNeg) τ) gL_law_X10_fits rfl (by decide +kernel) rfl (by decide) (by decide) rfl (Nat.le_of_ble_eq_true rfl) dL_law_894 (fun r3 t4 => ?_)
  refine r_iceq (pc := 897) (tgt := 1271) C dL_law_897 (by decide) ?_ ?_
  · exact back s2 t4 _ (fun v => hrec v _ _)
  · refine r_iconst (pc := 900) (v := (0 : Int32)) C dL_law_900 ic_0 ?_
    exact r_Lret0 C dL_law_901
set_option maxHeartbeats 4000000 in
set_option maxRecDepth 100000 in
theorem v_law_c23 {κ : oK} {x : oXp} {b : Nat → Nat} {b0 L : Nat} {xs : Nat → Int32} (C : oC κ (oL x b) 4 cL_law RL wsL_law 2000 (some .boolean)) (S : oS κ (oL x b) b0 L xs) (hz : lwK κ b0 (oL x b)) (rec : Int32 → Sg → Sg → Option (Int32 × Sg)) (hrec : ∀ (a3 : Int32) (σ τ : Sg), oV κ (oL x b) 4 (oQL κ) (cmb σ τ) 18 [(0, .ref b0), (1, .ref (xa x 0)), (2, .ref (b 0)), (3, .int a3)] [] (rec a3 σ τ)) (a3 : Int32) (σ τ : Sg) : oV κ (oL x b) 4 (oQL κ) (cmb σ τ) 902 [(0, .ref b0), (1, .ref (xa x 0)), (2, .ref (b 0)), (3, .int a3)] [] (f_law_c23 L xs rec a3 σ τ) := by
  have back : ∀ (σ τ : Sg) (K : Int32 → Option (Int32 × Sg)), (∀ v : Int32, oV κ (oL x b) 4 (oQL κ) (cmb σ τ) 18 [(0, .ref b0), (1, .ref (xa x 0)), (2, .ref (b 0)), (3, .int v)] [] (K v)) → oV κ (oL x b) 4 (oQL κ) (cmb σ τ) 1271 [(0, .ref b0), (1, .ref (xa x 0)), (2, .ref (b 0)), (3, .int a3)] [] (lt (a3 + (6 : Int32)) K) := by
    intro σ τ K hK
    refine r_iinc (pc := 1271) (v := (6 : Int32)) (lv1 := fun y => [(0, _), (1, _), (2, _), (3, .int y)]) C dL_law_1271 ic_6 3 rfl (by decide) [1, 2, 3, 0] (fun _ => rfl) (fun v => ?_)
    refine r_goto (pc := 1274) (tgt := 18) C dL_law_1274 (by decide) ?_
    exact hK v
  unfold f_law_c23
  refine r_aldn (pc := 902) C dL_law_902 1 rfl ?_
  refine r_aldn (pc := 903) C dL_law_903 0 rfl ?_
  refine r_ildn (pc := 904) C dL_law_904 3 rfl ?_
  refine r_iconst (pc := 905) (v := (1 : Int32)) C dL_law_905 ic_1 ?_
  refine r_iadd (pc := 906) C dL_law_906 ?_
  refine r_sld (pc := 907) C S dL_law_907 ?_
  refine r_aldn (pc := 908) C dL_law_908 0 rfl ?_
  refine r_ildn (pc := 909) C dL_law_909 3 rfl ?_
  refine r_iconst (pc := 910) (v := (2 : Int32)) C dL_law_910 ic_2 ?_
  refine r_iadd (pc := 911) C dL_law_911 ?_
  refine r_sld (pc := 912) C S dL_law_912 ?_
  refine r_aldn (pc := 913) C dL_law_913 0 rfl ?_
  refine r_ildn (pc := 914) C dL_law_914 3 rfl ?_
  refine r_iconst (pc := 915) (v := (3 : Int32)) C dL_law_915 ic_3 ?_
  refine r_iadd (pc := 916) C dL_law_916 ?_
  refine r_sld (pc := 917) C S dL_law_917 ?_
  refine r_LXi (pc := 918) (na := 3) (As := [.int (xs (a3 + (1 : Int32)).toNatClampNeg), .int (xs (a3 + (2 : Int32)).toNatClampNeg), .int (xs (a3 + (3 : Int32)).toNatClampNeg)]) C (fun l hI => m_X9_voice l _ hI (xs (a3 + (1 : Int32)).toNatClampNeg) (xs (a3 + (2 : Int32)).toNatClampNeg) (xs (a3 + (3 : Int32)).toNatClampNeg) σ) gL_law_X9_voice rfl (by decide +kernel) rfl (by decide) (by decide) rfl (Nat.le_of_ble_eq_true rfl) dL_law_918 (fun r1 s2 => ?_)
  refine r_aldn (pc := 921) C dL_law_921 2 rfl ?_
  refine r_aldn (pc := 922) C dL_law_922 0 rfl ?_
  refine r_ildn (pc := 923) C dL_law_923 3 rfl ?_
  refine r_iconst (pc := 924) (v := (1 : Int32)) C dL_law_924 ic_1 ?_
  refine r_iadd (pc := 925) C dL_law_925 ?_
  refine r_sld (pc := 926) C S dL_law_926 ?_
  refine r_aldn (pc := 927) C dL_law_927 0 rfl ?_
  refine r_ildn (pc := 928) C dL_law_928 3 rfl ?_
  refine r_iconst (pc := 929) (v := (2 : Int32)) C dL_law_929 ic_2 ?_
  refine r_iadd (pc := 930) C dL_law_930 ?_
  refine r_sld (pc := 931) C S dL_law_931 ?_
  refine r_aldn (pc := 932) C dL_law_932 0 rfl ?_
  refine r_ildn (pc := 933) C dL_law_933 3 rfl ?_
  refine r_iconst (pc := 934) (v := (3 : Int32)) C dL_law_934 ic_3 ?_
  refine r_iadd (pc := 935) C dL_law_935 ?_
  refine r_sld (pc := 936) C S dL_law_936 ?_
  refine r_LMi (pc := 937) (na := 3) (As := [.int (xs (a3 + (1 : Int32)).toNatClampNeg), .int (xs (a3 + (2 : Int32)).toNatClampNeg), .int (xs (a3 + (3 : Int32)).toNatClampNeg)]) C (fun l hI => m_X10_voice l _ hI (xs (a3 + (1 : Int32)).toNatClampNeg) (xs (a3 + (2 : Int32)).toNatClampNeg) (xs (a3 + (3 : Int32)).toNatClampNeg) τ) gL_law_X10_voice rfl (by decide +kernel) rfl (by decide) (by decide) rfl (Nat.le_of_ble_eq_true rfl) dL_law_937 (fun r3 t4 => ?_)
  refine r_iceq (pc := 940) (tgt := 1271) C dL_law_940 (by decide) ?_ ?_
  · exact back s2 t4 _ (fun v => hrec v _ _)
  · refine r_iconst (pc := 943) (v := (0 : Int32)) C dL_law_943 ic_0 ?_
    exact r_Lret0 C dL_law_944
set_option maxHeartbeats 4000000 in
set_option maxRecDepth 100000 in
theorem v_law_c24 {κ : oK} {x : oXp} {b : Nat → Nat} {b0 L : Nat} {xs : Nat → Int32} (C : oC κ (oL x b) 4 cL_law RL wsL_law 2000 (some .boolean)) (S : oS κ (oL x b) b0 L xs) (hz : lwK κ b0 (oL x b)) (rec : Int32 → Sg → Sg → Option (Int32 × Sg)) (hrec : ∀ (a3 : Int32) (σ τ : Sg), oV κ (oL x b) 4 (oQL κ) (cmb σ τ) 18 [(0, .ref b0), (1, .ref (xa x 0)), (2, .ref (b 0)), (3, .int a3)] [] (rec a3 σ τ)) (a3 : Int32) (σ τ : Sg) : oV κ (oL x b) 4 (oQL κ) (cmb σ τ) 945 [(0, .ref b0), (1, .ref (xa x 0)), (2, .ref (b 0)), (3, .int a3)] [] (f_law_c24 L xs rec a3 σ τ) := by
  have back : ∀ (σ τ : Sg) (K : Int32 → Option (Int32 × Sg)), (∀ v : Int32, oV κ (oL x b) 4 (oQL κ) (cmb σ τ) 18 [(0, .ref b0), (1, .ref (xa x 0)), (2, .ref (b 0)), (3, .int v)] [] (K v)) → oV κ (oL x b) 4 (oQL κ) (cmb σ τ) 1271 [(0, .ref b0), (1, .ref (xa x 0)), (2, .ref (b 0)), (3, .int a3)] [] (lt (a3 + (6 : Int32)) K) := by
    intro σ τ K hK
    refine r_iinc (pc := 1271) (v := (6 : Int32)) (lv1 := fun y => [(0, _), (1, _), (2, _), (3, .int y)]) C dL_law_1271 ic_6 3 rfl (by decide) [1, 2, 3, 0] (fun _ => rfl) (fun v => ?_)
    refine r_goto (pc := 1274) (tgt := 18) C dL_law_1274 (by decide) ?_
    exact hK v
  unfold f_law_c24
  refine r_aldn (pc := 945) C dL_law_945 1 rfl ?_
  refine r_aldn (pc := 946) C dL_law_946 0 rfl ?_
  refine r_ildn (pc := 947) C dL_law_947 3 rfl ?_
  refine r_iconst (pc := 948) (v := (1 : Int32)) C dL_law_948 ic_1 ?_
  refine r_iadd (pc := 949) C dL_law_949 ?_
  refine r_sld (pc := 950) C S dL_law_950 ?_
  refine r_LXi (pc := 951) (na := 1) (As := [.int (xs (a3 + (1 : Int32)).toNatClampNeg)]) C (fun l hI => m_X9_body l _ hI (xs (a3 + (1 : Int32)).toNatClampNeg) σ) gL_law_X9_body rfl (by decide +kernel) rfl (by decide) (by decide) rfl (Nat.le_of_ble_eq_true rfl) dL_law_951 (fun r1 s2 => ?_)
  refine r_aldn (pc := 954) C dL_law_954 2 rfl ?_
  refine r_aldn (pc := 955) C dL_law_955 0 rfl ?_
  refine r_ildn (pc := 956) C dL_law_956 3 rfl ?_
  refine r_iconst (pc := 957) (v := (1 : Int32)) C dL_law_957 ic_1 ?_
  refine r_iadd (pc := 958) C dL_law_958 ?_
  refine r_sld (pc := 959) C S dL_law_959 ?_
  refine r_LMi (pc := 960) (na := 1) (As := [.int (xs (a3 + (1 : Int32)).toNatClampNeg)]) C (fun l hI => m_X10_body l _ hI (xs (a3 + (1 : Int32)).toNatClampNeg) τ) gL_law_X10_body rfl (by decide +kernel) rfl (by decide) (by decide) rfl (Nat.le_of_ble_eq_true rfl) dL_law_960 (fun r3 t4 => ?_)
  refine r_iceq (pc := 963) (tgt := 1271) C dL_law_963 (by decide) ?_ ?_
  · exact back s2 t4 _ (fun v => hrec v _ _)
  · refine r_iconst (pc := 966) (v := (0 : Int32)) C dL_law_966 ic_0 ?_
    exact r_Lret0 C dL_law_967
set_option maxHeartbeats 4000000 in
set_option maxRecDepth 100000 in
theorem v_law_c25 {κ : oK} {x : oXp} {b : Nat → Nat} {b0 L : Nat} {xs : Nat → Int32} (C : oC κ (oL x b) 4 cL_law RL wsL_law 2000 (some .boolean)) (S : oS κ (oL x b) b0 L xs) (hz : lwK κ b0 (oL x b)) (rec : Int32 → Sg → Sg → Option (Int32 × Sg)) (hrec : ∀ (a3 : Int32) (σ τ : Sg), oV κ (oL x b) 4 (oQL κ) (cmb σ τ) 18 [(0, .ref b0), (1, .ref (xa x 0)), (2, .ref (b 0)), (3, .int a3)] [] (rec a3 σ τ)) (a3 : Int32) (σ τ : Sg) : oV κ (oL x b) 4 (oQL κ) (cmb σ τ) 968 [(0, .ref b0), (1, .ref (xa x 0)), (2, .ref (b 0)), (3, .int a3)] [] (f_law_c25 L xs rec a3 σ τ) := by
  have back : ∀ (σ τ : Sg) (K : Int32 → Option (Int32 × Sg)), (∀ v : Int32, oV κ (oL x b) 4 (oQL κ) (cmb σ τ) 18 [(0, .ref b0), (1, .ref (xa x 0)), (2, .ref (b 0)), (3, .int v)] [] (K v)) → oV κ (oL x b) 4 (oQL κ) (cmb σ τ) 1271 [(0, .ref b0), (1, .ref (xa x 0)), (2, .ref (b 0)), (3, .int a3)] [] (lt (a3 + (6 : Int32)) K) := by
    intro σ τ K hK
    refine r_iinc (pc := 1271) (v := (6 : Int32)) (lv1 := fun y => [(0, _), (1, _), (2, _), (3, .int y)]) C dL_law_1271 ic_6 3 rfl (by decide) [1, 2, 3, 0] (fun _ => rfl) (fun v => ?_)
    refine r_goto (pc := 1274) (tgt := 18) C dL_law_1274 (by decide) ?_
    exact hK v
  unfold f_law_c25
  refine r_aldn (pc := 968) C dL_law_968 1 rfl ?_
  refine r_aldn (pc := 969) C dL_law_969 0 rfl ?_
  refine r_ildn (pc := 970) C dL_law_970 3 rfl ?_
  refine r_iconst (pc := 971) (v := (1 : Int32)) C dL_law_971 ic_1 ?_
  refine r_iadd (pc := 972) C dL_law_972 ?_
  refine r_sld (pc := 973) C S dL_law_973 ?_
  refine r_aldn (pc := 974) C dL_law_974 0 rfl ?_
  refine r_ildn (pc := 975) C dL_law_975 3 rfl ?_
  refine r_iconst (pc := 976) (v := (2 : Int32)) C dL_law_976 ic_2 ?_
  refine r_iadd (pc := 977) C dL_law_977 ?_
  refine r_sld (pc := 978) C S dL_law_978 ?_
  refine r_aldn (pc := 979) C dL_law_979 0 rfl ?_
  refine r_ildn (pc := 980) C dL_law_980 3 rfl ?_
  refine r_iconst (pc := 981) (v := (3 : Int32)) C dL_law_981 ic_3 ?_
  refine r_iadd (pc := 982) C dL_law_982 ?_
  refine r_sld (pc := 983) C S dL_law_983 ?_
  refine r_LXi (pc := 984) (na := 3) (As := [.int (xs (a3 + (1 : Int32)).toNatClampNeg), .int (xs (a3 + (2 : Int32)).toNatClampNeg), .int (xs (a3 + (3 : Int32)).toNatClampNeg)]) C (fun l hI => m_X9_sheet l _ hI (xs (a3 + (1 : Int32)).toNatClampNeg) (xs (a3 + (2 : Int32)).toNatClampNeg) (xs (a3 + (3 : Int32)).toNatClampNeg) σ) gL_law_X9_sheet rfl (by decide +kernel) rfl (by decide) (by decide) rfl (Nat.le_of_ble_eq_true rfl) dL_law_984 (fun r1 s2 => ?_)
  refine r_aldn (pc := 987) C dL_law_987 2 rfl ?_
  refine r_aldn (pc := 988) C dL_law_988 0 rfl ?_
  refine r_ildn (pc := 989) C dL_law_989 3 rfl ?_
  refine r_iconst (pc := 990) (v := (1 : Int32)) C dL_law_990 ic_1 ?_
  refine r_iadd (pc := 991) C dL_law_991 ?_
  refine r_sld (pc := 992) C S dL_law_992 ?_
  refine r_aldn (pc := 993) C dL_law_993 0 rfl ?_
  refine r_ildn (pc := 994) C dL_law_994 3 rfl ?_
  refine r_iconst (pc := 995) (v := (2 : Int32)) C dL_law_995 ic_2 ?_
  refine r_iadd (pc := 996) C dL_law_996 ?_
  refine r_sld (pc := 997) C S dL_law_997 ?_
  refine r_aldn (pc := 998) C dL_law_998 0 rfl ?_
  refine r_ildn (pc := 999) C dL_law_999 3 rfl ?_
  refine r_iconst (pc := 1000) (v := (3 : Int32)) C dL_law_1000 ic_3 ?_
  refine r_iadd (pc := 1001) C dL_law_1001 ?_
  refine r_sld (pc := 1002) C S dL_law_1002 ?_
  refine r_LMi (pc := 1003) (na := 3) (As := [.int (xs (a3 + (1 : Int32)).toNatClampNeg), .int (xs (a3 + (2 : Int32)).toNatClampNeg), .int (xs (a3 + (3 : Int32)).toNatClampNeg)]) C (fun l hI => m_X10_sheet l _ hI (xs (a3 + (1 : Int32)).toNatClampNeg) (xs (a3 + (2 : Int32)).toNatClampNeg) (xs (a3 + (3 : Int32)).toNatClampNeg) τ) gL_law_X10_sheet rfl (by decide +kernel) rfl (by decide) (by decide) rfl (Nat.le_of_ble_eq_true rfl) dL_law_1003 (fun r3 t4 => ?_)
  refine r_iceq (pc := 1006) (tgt := 1271) C dL_law_1006 (by decide) ?_ ?_
  · exact back s2 t4 _ (fun v => hrec v _ _)
  · refine r_iconst (pc := 1009) (v := (0 : Int32)) C dL_law_1009 ic_0 ?_
    exact r_Lret0 C dL_law_1010
set_option maxHeartbeats 4000000 in
set_option maxRecDepth 100000 in
theorem v_law_c26 {κ : oK} {x : oXp} {b : Nat → Nat} {b0 L : Nat} {xs : Nat → Int32} (C : oC κ (oL x b) 4 cL_law RL wsL_law 2000 (some .boolean)) (S : oS κ (oL x b) b0 L xs) (hz : lwK κ b0 (oL x b)) (rec : Int32 → Sg → Sg → Option (Int32 × Sg)) (hrec : ∀ (a3 : Int32) (σ τ : Sg), oV κ (oL x b) 4 (oQL κ) (cmb σ τ) 18 [(0, .ref b0), (1, .ref (xa x 0)), (2, .ref (b 0)), (3, .int a3)] [] (rec a3 σ τ)) (a3 : Int32) (σ τ : Sg) : oV κ (oL x b) 4 (oQL κ) (cmb σ τ) 1011 [(0, .ref b0), (1, .ref (xa x 0)), (2, .ref (b 0)), (3, .int a3)] [] (f_law_c26 L xs rec a3 σ τ) := by
  have back : ∀ (σ τ : Sg) (K : Int32 → Option (Int32 × Sg)), (∀ v : Int32, oV κ (oL x b) 4 (oQL κ) (cmb σ τ) 18 [(0, .ref b0), (1, .ref (xa x 0)), (2, .ref (b 0)), (3, .int v)] [] (K v)) → oV κ (oL x b) 4 (oQL κ) (cmb σ τ) 1271 [(0, .ref b0), (1, .ref (xa x 0)), (2, .ref (b 0)), (3, .int a3)] [] (lt (a3 + (6 : Int32)) K) := by
    intro σ τ K hK
    refine r_iinc (pc := 1271) (v := (6 : Int32)) (lv1 := fun y => [(0, _), (1, _), (2, _), (3, .int y)]) C dL_law_1271 ic_6 3 rfl (by decide) [1, 2, 3, 0] (fun _ => rfl) (fun v => ?_)
    refine r_goto (pc := 1274) (tgt := 18) C dL_law_1274 (by decide) ?_
    exact hK v
  unfold f_law_c26
  refine r_aldn (pc := 1011) C dL_law_1011 1 rfl ?_
  refine r_aldn (pc := 1012) C dL_law_1012 0 rfl ?_
  refine r_ildn (pc := 1013) C dL_law_1013 3 rfl ?_
  refine r_iconst (pc := 1014) (v := (1 : Int32)) C dL_law_1014 ic_1 ?_
  refine r_iadd (pc := 1015) C dL_law_1015 ?_
  refine r_sld (pc := 1016) C S dL_law_1016 ?_
  refine r_aldn (pc := 1017) C dL_law_1017 0 rfl ?_
  refine r_ildn (pc := 1018) C dL_law_1018 3 rfl ?_
  refine r_iconst (pc := 1019) (v := (2 : Int32)) C dL_law_1019 ic_2 ?_
  refine r_iadd (pc := 1020) C dL_law_1020 ?_
  refine r_sld (pc := 1021) C S dL_law_1021 ?_
  refine r_aldn (pc := 1022) C dL_law_1022 0 rfl ?_
  refine r_ildn (pc := 1023) C dL_law_1023 3 rfl ?_
  refine r_iconst (pc := 1024) (v := (3 : Int32)) C dL_law_1024 ic_3 ?_
  refine r_iadd (pc := 1025) C dL_law_1025 ?_
  refine r_sld (pc := 1026) C S dL_law_1026 ?_
  refine r_LXi (pc := 1027) (na := 3) (As := [.int (xs (a3 + (1 : Int32)).toNatClampNeg), .int (xs (a3 + (2 : Int32)).toNatClampNeg), .int (xs (a3 + (3 : Int32)).toNatClampNeg)]) C (fun l hI => m_X9_put l _ hI (xs (a3 + (1 : Int32)).toNatClampNeg) (xs (a3 + (2 : Int32)).toNatClampNeg) (xs (a3 + (3 : Int32)).toNatClampNeg) σ) gL_law_X9_put rfl (by decide +kernel) rfl (by decide) (by decide) rfl (Nat.le_of_ble_eq_true rfl) dL_law_1027 (fun r1 s2 => ?_)
  refine r_aldn (pc := 1030) C dL_law_1030 2 rfl ?_
  refine r_aldn (pc := 1031) C dL_law_1031 0 rfl ?_
  refine r_ildn (pc := 1032) C dL_law_1032 3 rfl ?_
  refine r_iconst (pc := 1033) (v := (1 : Int32)) C dL_law_1033 ic_1 ?_
  refine r_iadd (pc := 1034) C dL_law_1034 ?_
  refine r_sld (pc := 1035) C S dL_law_1035 ?_
  refine r_aldn (pc := 1036) C dL_law_1036 0 rfl ?_
  refine r_ildn (pc := 1037) C dL_law_1037 3 rfl ?_
  refine r_iconst (pc := 1038) (v := (2 : Int32)) C dL_law_1038 ic_2 ?_
  refine r_iadd (pc := 1039) C dL_law_1039 ?_
  refine r_sld (pc := 1040) C S dL_law_1040 ?_
  refine r_aldn (pc := 1041) C dL_law_1041 0 rfl ?_
  refine r_ildn (pc := 1042) C dL_law_1042 3 rfl ?_
  refine r_iconst (pc := 1043) (v := (3 : Int32)) C dL_law_1043 ic_3 ?_
  refine r_iadd (pc := 1044) C dL_law_1044 ?_
  refine r_sld (pc := 1045) C S dL_law_1045 ?_
  refine r_LMi (pc := 1046) (na := 3) (As := [.int (xs (a3 + (1 : Int32)).toNatClampNeg), .int (xs (a3 + (2 : Int32)).toNatClampNeg), .int (xs (a3 + (3 : Int32)).toNatClampNeg)]) C (fun l hI => m_X10_put l _ hI (xs (a3 + (1 : Int32)).toNatClampNeg) (xs (a3 + (2 : Int32)).toNatClampNeg) (xs (a3 + (3 : Int32)).toNatClampNeg) τ) gL_law_X10_put rfl (by decide +kernel) rfl (by decide) (by decide) rfl (Nat.le_of_ble_eq_true rfl) dL_law_1046 (fun r3 t4 => ?_)
  refine r_iceq (pc := 1049) (tgt := 1271) C dL_law_1049 (by decide) ?_ ?_
  · exact back s2 t4 _ (fun v => hrec v _ _)
  · refine r_iconst (pc := 1052) (v := (0 : Int32)) C dL_law_1052 ic_0 ?_
    exact r_Lret0 C dL_law_1053
set_option maxHeartbeats 4000000 in
set_option maxRecDepth 100000 in
theorem v_law_c27 {κ : oK} {x : oXp} {b : Nat → Nat} {b0 L : Nat} {xs : Nat → Int32} (C : oC κ (oL x b) 4 cL_law RL wsL_law 2000 (some .boolean)) (S : oS κ (oL x b) b0 L xs) (hz : lwK κ b0 (oL x b)) (rec : Int32 → Sg → Sg → Option (Int32 × Sg)) (hrec : ∀ (a3 : Int32) (σ τ : Sg), oV κ (oL x b) 4 (oQL κ) (cmb σ τ) 18 [(0, .ref b0), (1, .ref (xa x 0)), (2, .ref (b 0)), (3, .int a3)] [] (rec a3 σ τ)) (a3 : Int32) (σ τ : Sg) : oV κ (oL x b) 4 (oQL κ) (cmb σ τ) 1054 [(0, .ref b0), (1, .ref (xa x 0)), (2, .ref (b 0)), (3, .int a3)] [] (f_law_c27 L xs rec a3 σ τ) := by
  have back : ∀ (σ τ : Sg) (K : Int32 → Option (Int32 × Sg)), (∀ v : Int32, oV κ (oL x b) 4 (oQL κ) (cmb σ τ) 18 [(0, .ref b0), (1, .ref (xa x 0)), (2, .ref (b 0)), (3, .int v)] [] (K v)) → oV κ (oL x b) 4 (oQL κ) (cmb σ τ) 1271 [(0, .ref b0), (1, .ref (xa x 0)), (2, .ref (b 0)), (3, .int a3)] [] (lt (a3 + (6 : Int32)) K) := by
    intro σ τ K hK
    refine r_iinc (pc := 1271) (v := (6 : Int32)) (lv1 := fun y => [(0, _), (1, _), (2, _), (3, .int y)]) C dL_law_1271 ic_6 3 rfl (by decide) [1, 2, 3, 0] (fun _ => rfl) (fun v => ?_)
    refine r_goto (pc := 1274) (tgt := 18) C dL_law_1274 (by decide) ?_
    exact hK v
  unfold f_law_c27
  refine r_aldn (pc := 1054) C dL_law_1054 1 rfl ?_
  refine r_aldn (pc := 1055) C dL_law_1055 0 rfl ?_
  refine r_ildn (pc := 1056) C dL_law_1056 3 rfl ?_
  refine r_iconst (pc := 1057) (v := (1 : Int32)) C dL_law_1057 ic_1 ?_
  refine r_iadd (pc := 1058) C dL_law_1058 ?_
  refine r_sld (pc := 1059) C S dL_law_1059 ?_
  refine r_aldn (pc := 1060) C dL_law_1060 0 rfl ?_
  refine r_ildn (pc := 1061) C dL_law_1061 3 rfl ?_
  refine r_iconst (pc := 1062) (v := (2 : Int32)) C dL_law_1062 ic_2 ?_
  refine r_iadd (pc := 1063) C dL_law_1063 ?_
  refine r_sld (pc := 1064) C S dL_law_1064 ?_
  refine r_aldn (pc := 1065) C dL_law_1065 0 rfl ?_
  refine r_ildn (pc := 1066) C dL_law_1066 3 rfl ?_
  refine r_iconst (pc := 1067) (v := (3 : Int32)) C dL_law_1067 ic_3 ?_
  refine r_iadd (pc := 1068) C dL_law_1068 ?_
  refine r_sld (pc := 1069) C S dL_law_1069 ?_
  refine r_aldn (pc := 1070) C dL_law_1070 0 rfl ?_
  refine r_ildn (pc := 1071) C dL_law_1071 3 rfl ?_
  refine r_iconst (pc := 1072) (v := (4 : Int32)) C dL_law_1072 ic_4 ?_
  refine r_iadd (pc := 1073) C dL_law_1073 ?_
  refine r_sld (pc := 1074) C S dL_law_1074 ?_
  refine r_aldn (pc := 1075) C dL_law_1075 0 rfl ?_
  refine r_ildn (pc := 1076) C dL_law_1076 3 rfl ?_
  refine r_iconst (pc := 1077) (v := (5 : Int32)) C dL_law_1077 ic_5 ?_
  refine r_iadd (pc := 1078) C dL_law_1078 ?_
  refine r_sld (pc := 1079) C S dL_law_1079 ?_
  refine r_LXi (pc := 1080) (na := 5) (As := [.int (xs (a3 + (1 : Int32)).toNatClampNeg), .int (xs (a3 + (2 : Int32)).toNatClampNeg), .int (xs (a3 + (3 : Int32)).toNatClampNeg), .int (xs (a3 + (4 : Int32)).toNatClampNeg), .int (xs (a3 + (5 : Int32)).toNatClampNeg)]) C (fun l hI => m_X9_move l _ hI (xs (a3 + (1 : Int32)).toNatClampNeg) (xs (a3 + (2 : Int32)).toNatClampNeg) (xs (a3 + (3 : Int32)).toNatClampNeg) (xs (a3 + (4 : Int32)).toNatClampNeg) (xs (a3 + (5 : Int32)).toNatClampNeg) σ) gL_law_X9_move rfl (by decide +kernel) rfl (by decide) (by decide) rfl (Nat.le_of_ble_eq_true rfl) dL_law_1080 (fun r1 s2 => ?_)
  refine r_aldn (pc := 1083) C dL_law_1083 2 rfl ?_
  refine r_aldn (pc := 1084) C dL_law_1084 0 rfl ?_
  refine r_ildn (pc := 1085) C dL_law_1085 3 rfl ?_
  refine r_iconst (pc := 1086) (v := (1 : Int32)) C dL_law_1086 ic_1 ?_
  refine r_iadd (pc := 1087) C dL_law_1087 ?_
  refine r_sld (pc := 1088) C S dL_law_1088 ?_
  refine r_aldn (pc := 1089) C dL_law_1089 0 rfl ?_
  refine r_ildn (pc := 1090) C dL_law_1090 3 rfl ?_
  refine r_iconst (pc := 1091) (v := (2 : Int32)) C dL_law_1091 ic_2 ?_
  refine r_iadd (pc := 1092) C dL_law_1092 ?_
  refine r_sld (pc := 1093) C S dL_law_1093 ?_
  refine r_aldn (pc := 1094) C dL_law_1094 0 rfl ?_
  refine r_ildn (pc := 1095) C dL_law_1095 3 rfl ?_
  refine r_iconst (pc := 1096) (v := (3 : Int32)) C dL_law_1096 ic_3 ?_
  refine r_iadd (pc := 1097) C dL_law_1097 ?_
  refine r_sld (pc := 1098) C S dL_law_1098 ?_
  refine r_aldn (pc := 1099) C dL_law_1099 0 rfl ?_
  refine r_ildn (pc := 1100) C dL_law_1100 3 rfl ?_
  refine r_iconst (pc := 1101) (v := (4 : Int32)) C dL_law_1101 ic_4 ?_
  refine r_iadd (pc := 1102) C dL_law_1102 ?_
  refine r_sld (pc := 1103) C S dL_law_1103 ?_
  refine r_aldn (pc := 1104) C dL_law_1104 0 rfl ?_
  refine r_ildn (pc := 1105) C dL_law_1105 3 rfl ?_
  refine r_iconst (pc := 1106) (v := (5 : Int32)) C dL_law_1106 ic_5 ?_
  refine r_iadd (pc := 1107) C dL_law_1107 ?_
  refine r_sld (pc := 1108) C S dL_law_1108 ?_
  refine r_LMi (pc := 1109) (na := 5) (As := [.int (xs (a3 + (1 : Int32)).toNatClampNeg), .int (xs (a3 + (2 : Int32)).toNatClampNeg), .int (xs (a3 + (3 : Int32)).toNatClampNeg), .int (xs (a3 + (4 : Int32)).toNatClampNeg), .int (xs (a3 + (5 : Int32)).toNatClampNeg)]) C (fun l hI => m_X10_move l _ hI (xs (a3 + (1 : Int32)).toNatClampNeg) (xs (a3 + (2 : Int32)).toNatClampNeg) (xs (a3 + (3 : Int32)).toNatClampNeg) (xs (a3 + (4 : Int32)).toNatClampNeg) (xs (a3 + (5 : Int32)).toNatClampNeg) τ) gL_law_X10_move rfl (by decide +kernel) rfl (by decide) (by decide) rfl (Nat.le_of_ble_eq_true rfl) dL_law_1109 (fun r3 t4 => ?_)
  refine r_iceq (pc := 1112) (tgt := 1271) C dL_law_1112 (by decide) ?_ ?_
  · exact back s2 t4 _ (fun v => hrec v _ _)
  · refine r_iconst (pc := 1115) (v := (0 : Int32)) C dL_law_1115 ic_0 ?_
    exact r_Lret0 C dL_law_1116
set_option maxHeartbeats 4000000 in
set_option maxRecDepth 100000 in
theorem v_law_c28 {κ : oK} {x : oXp} {b : Nat → Nat} {b0 L : Nat} {xs : Nat → Int32} (C : oC κ (oL x b) 4 cL_law RL wsL_law 2000 (some .boolean)) (S : oS κ (oL x b) b0 L xs) (hz : lwK κ b0 (oL x b)) (rec : Int32 → Sg → Sg → Option (Int32 × Sg)) (hrec : ∀ (a3 : Int32) (σ τ : Sg), oV κ (oL x b) 4 (oQL κ) (cmb σ τ) 18 [(0, .ref b0), (1, .ref (xa x 0)), (2, .ref (b 0)), (3, .int a3)] [] (rec a3 σ τ)) (a3 : Int32) (σ τ : Sg) : oV κ (oL x b) 4 (oQL κ) (cmb σ τ) 1117 [(0, .ref b0), (1, .ref (xa x 0)), (2, .ref (b 0)), (3, .int a3)] [] (f_law_c28 L xs rec a3 σ τ) := by
  have back : ∀ (σ τ : Sg) (K : Int32 → Option (Int32 × Sg)), (∀ v : Int32, oV κ (oL x b) 4 (oQL κ) (cmb σ τ) 18 [(0, .ref b0), (1, .ref (xa x 0)), (2, .ref (b 0)), (3, .int v)] [] (K v)) → oV κ (oL x b) 4 (oQL κ) (cmb σ τ) 1271 [(0, .ref b0), (1, .ref (xa x 0)), (2, .ref (b 0)), (3, .int a3)] [] (lt (a3 + (6 : Int32)) K) := by
    intro σ τ K hK
    refine r_iinc (pc := 1271) (v := (6 : Int32)) (lv1 := fun y => [(0, _), (1, _), (2, _), (3, .int y)]) C dL_law_1271 ic_6 3 rfl (by decide) [1, 2, 3, 0] (fun _ => rfl) (fun v => ?_)
    refine r_goto (pc := 1274) (tgt := 18) C dL_law_1274 (by decide) ?_
    exact hK v
  unfold f_law_c28
  refine r_aldn (pc := 1117) C dL_law_1117 1 rfl ?_
  refine r_aldn (pc := 1118) C dL_law_1118 0 rfl ?_
  refine r_ildn (pc := 1119) C dL_law_1119 3 rfl ?_
  refine r_iconst (pc := 1120) (v := (1 : Int32)) C dL_law_1120 ic_1 ?_
  refine r_iadd (pc := 1121) C dL_law_1121 ?_
  refine r_sld (pc := 1122) C S dL_law_1122 ?_
  refine r_LXi (pc := 1123) (na := 1) (As := [.int (xs (a3 + (1 : Int32)).toNatClampNeg)]) C (fun l hI => m_X9_dates l _ hI (xs (a3 + (1 : Int32)).toNatClampNeg) σ) gL_law_X9_dates rfl (by decide +kernel) rfl (by decide) (by decide) rfl (Nat.le_of_ble_eq_true rfl) dL_law_1123 (fun r1 s2 => ?_)
  refine r_aldn (pc := 1126) C dL_law_1126 2 rfl ?_
  refine r_aldn (pc := 1127) C dL_law_1127 0 rfl ?_
  refine r_ildn (pc := 1128) C dL_law_1128 3 rfl ?_
  refine r_iconst (pc := 1129) (v := (1 : Int32)) C dL_law_1129 ic_1 ?_
  refine r_iadd (pc := 1130) C dL_law_1130 ?_
  refine r_sld (pc := 1131) C S dL_law_1131 ?_
  refine r_LMi (pc := 1132) (na := 1) (As := [.int (xs (a3 + (1 : Int32)).toNatClampNeg)]) C (fun l hI => m_X10_dates l _ hI (xs (a3 + (1 : Int32)).toNatClampNeg) τ) gL_law_X10_dates rfl (by decide +kernel) rfl (by decide) (by decide) rfl (Nat.le_of_ble_eq_true rfl) dL_law_1132 (fun r3 t4 => ?_)
  refine r_iceq (pc := 1135) (tgt := 1271) C dL_law_1135 (by decide) ?_ ?_
  · exact back s2 t4 _ (fun v => hrec v _ _)
  · refine r_iconst (pc := 1138) (v := (0 : Int32)) C dL_law_1138 ic_0 ?_
    exact r_Lret0 C dL_law_1139
set_option maxHeartbeats 4000000 in
set_option maxRecDepth 100000 in
theorem v_law_c29 {κ : oK} {x : oXp} {b : Nat → Nat} {b0 L : Nat} {xs : Nat → Int32} (C : oC κ (oL x b) 4 cL_law RL wsL_law 2000 (some .boolean)) (S : oS κ (oL x b) b0 L xs) (hz : lwK κ b0 (oL x b)) (rec : Int32 → Sg → Sg → Option (Int32 × Sg)) (hrec : ∀ (a3 : Int32) (σ τ : Sg), oV κ (oL x b) 4 (oQL κ) (cmb σ τ) 18 [(0, .ref b0), (1, .ref (xa x 0)), (2, .ref (b 0)), (3, .int a3)] [] (rec a3 σ τ)) (a3 : Int32) (σ τ : Sg) : oV κ (oL x b) 4 (oQL κ) (cmb σ τ) 1140 [(0, .ref b0), (1, .ref (xa x 0)), (2, .ref (b 0)), (3, .int a3)] [] (f_law_c29 L xs rec a3 σ τ) := by
  have back : ∀ (σ τ : Sg) (K : Int32 → Option (Int32 × Sg)), (∀ v : Int32, oV κ (oL x b) 4 (oQL κ) (cmb σ τ) 18 [(0, .ref b0), (1, .ref (xa x 0)), (2, .ref (b 0)), (3, .int v)] [] (K v)) → oV κ (oL x b) 4 (oQL κ) (cmb σ τ) 1271 [(0, .ref b0), (1, .ref (xa x 0)), (2, .ref (b 0)), (3, .int a3)] [] (lt (a3 + (6 : Int32)) K) := by
    intro σ τ K hK
    refine r_iinc (pc := 1271) (v := (6 : Int32)) (lv1 := fun y => [(0, _), (1, _), (2, _), (3, .int y)]) C dL_law_1271 ic_6 3 rfl (by decide) [1, 2, 3, 0] (fun _ => rfl) (fun v => ?_)
    refine r_goto (pc := 1274) (tgt := 18) C dL_law_1274 (by decide) ?_
    exact hK v
  unfold f_law_c29
  refine r_aldn (pc := 1140) C dL_law_1140 1 rfl ?_
  refine r_aldn (pc := 1141) C dL_law_1141 0 rfl ?_
  refine r_ildn (pc := 1142) C dL_law_1142 3 rfl ?_
  refine r_iconst (pc := 1143) (v := (1 : Int32)) C dL_law_1143 ic_1 ?_
  refine r_iadd (pc := 1144) C dL_law_1144 ?_
  refine r_sld (pc := 1145) C S dL_law_1145 ?_
  refine r_LXi (pc := 1146) (na := 1) (As := [.int (xs (a3 + (1 : Int32)).toNatClampNeg)]) C (fun l hI => m_X9_judge l _ hI (xs (a3 + (1 : Int32)).toNatClampNeg) σ) gL_law_X9_judge rfl (by decide +kernel) rfl (by decide) (by decide) rfl (Nat.le_of_ble_eq_true rfl) dL_law_1146 (fun r1 s2 => ?_)
  refine r_aldn (pc := 1149) C dL_law_1149 2 rfl ?_
  refine r_aldn (pc := 1150) C dL_law_1150 0 rfl ?_
  refine r_ildn (pc := 1151) C dL_law_1151 3 rfl ?_
  refine r_iconst (pc := 1152) (v := (1 : Int32)) C dL_law_1152 ic_1 ?_
  refine r_iadd (pc := 1153) C dL_law_1153 ?_
  refine r_sld (pc := 1154) C S dL_law_1154 ?_
  refine r_LMi (pc := 1155) (na := 1) (As := [.int (xs (a3 + (1 : Int32)).toNatClampNeg)]) C (fun l hI => m_X10_judge l _ hI (xs (a3 + (1 : Int32)).toNatClampNeg) τ) gL_law_X10_judge rfl (by decide +kernel) rfl (by decide) (by decide) rfl (Nat.le_of_ble_eq_true rfl) dL_law_1155 (fun r3 t4 => ?_)
  refine r_iceq (pc := 1158) (tgt := 1271) C dL_law_1158 (by decide) ?_ ?_
  · exact back s2 t4 _ (fun v => hrec v _ _)
  · refine r_iconst (pc := 1161) (v := (0 : Int32)) C dL_law_1161 ic_0 ?_
    exact r_Lret0 C dL_law_1162
set_option maxHeartbeats 4000000 in
set_option maxRecDepth 100000 in
theorem v_law_c30 {κ : oK} {x : oXp} {b : Nat → Nat} {b0 L : Nat} {xs : Nat → Int32} (C : oC κ (oL x b) 4 cL_law RL wsL_law 2000 (some .boolean)) (S : oS κ (oL x b) b0 L xs) (hz : lwK κ b0 (oL x b)) (rec : Int32 → Sg → Sg → Option (Int32 × Sg)) (hrec : ∀ (a3 : Int32) (σ τ : Sg), oV κ (oL x b) 4 (oQL κ) (cmb σ τ) 18 [(0, .ref b0), (1, .ref (xa x 0)), (2, .ref (b 0)), (3, .int a3)] [] (rec a3 σ τ)) (a3 : Int32) (σ τ : Sg) : oV κ (oL x b) 4 (oQL κ) (cmb σ τ) 1163 [(0, .ref b0), (1, .ref (xa x 0)), (2, .ref (b 0)), (3, .int a3)] [] (f_law_c30 L xs rec a3 σ τ) := by
  have back : ∀ (σ τ : Sg) (K : Int32 → Option (Int32 × Sg)), (∀ v : Int32, oV κ (oL x b) 4 (oQL κ) (cmb σ τ) 18 [(0, .ref b0), (1, .ref (xa x 0)), (2, .ref (b 0)), (3, .int v)] [] (K v)) → oV κ (oL x b) 4 (oQL κ) (cmb σ τ) 1271 [(0, .ref b0), (1, .ref (xa x 0)), (2, .ref (b 0)), (3, .int a3)] [] (lt (a3 + (6 : Int32)) K) := by
    intro σ τ K hK
    refine r_iinc (pc := 1271) (v := (6 : Int32)) (lv1 := fun y => [(0, _), (1, _), (2, _), (3, .int y)]) C dL_law_1271 ic_6 3 rfl (by decide) [1, 2, 3, 0] (fun _ => rfl) (fun v => ?_)
    refine r_goto (pc := 1274) (tgt := 18) C dL_law_1274 (by decide) ?_
    exact hK v
  unfold f_law_c30
  refine r_aldn (pc := 1163) C dL_law_1163 1 rfl ?_
  refine r_LXi (pc := 1164) (na := 0) (As := []) C (fun l hI => m_X9_image l _ hI  σ) gL_law_X9_image rfl (by decide +kernel) rfl (by decide) (by decide) rfl (Nat.le_of_ble_eq_true rfl) dL_law_1164 (fun r1 s2 => ?_)
  refine r_aldn (pc := 1167) C dL_law_1167 2 rfl ?_
  refine r_LMi (pc := 1168) (na := 0) (As := []) C (fun l hI => m_X10_image l _ hI  τ) gL_law_X10_image rfl (by decide +kernel) rfl (by decide) (by decide) rfl (Nat.le_of_ble_eq_true rfl) dL_law_1168 (fun r3 t4 => ?_)
  refine r_iceq (pc := 1171) (tgt := 1271) C dL_law_1171 (by decide) ?_ ?_
  · exact back s2 t4 _ (fun v => hrec v _ _)
  · refine r_iconst (pc := 1174) (v := (0 : Int32)) C dL_law_1174 ic_0 ?_
    exact r_Lret0 C dL_law_1175
set_option maxHeartbeats 4000000 in
set_option maxRecDepth 100000 in
theorem v_law_c31 {κ : oK} {x : oXp} {b : Nat → Nat} {b0 L : Nat} {xs : Nat → Int32} (C : oC κ (oL x b) 4 cL_law RL wsL_law 2000 (some .boolean)) (S : oS κ (oL x b) b0 L xs) (hz : lwK κ b0 (oL x b)) (rec : Int32 → Sg → Sg → Option (Int32 × Sg)) (hrec : ∀ (a3 : Int32) (σ τ : Sg), oV κ (oL x b) 4 (oQL κ) (cmb σ τ) 18 [(0, .ref b0), (1, .ref (xa x 0)), (2, .ref (b 0)), (3, .int a3)] [] (rec a3 σ τ)) (a3 : Int32) (σ τ : Sg) : oV κ (oL x b) 4 (oQL κ) (cmb σ τ) 1176 [(0, .ref b0), (1, .ref (xa x 0)), (2, .ref (b 0)), (3, .int a3)] [] (f_law_c31 L xs rec a3 σ τ) := by
  have back : ∀ (σ τ : Sg) (K : Int32 → Option (Int32 × Sg)), (∀ v : Int32, oV κ (oL x b) 4 (oQL κ) (cmb σ τ) 18 [(0, .ref b0), (1, .ref (xa x 0)), (2, .ref (b 0)), (3, .int v)] [] (K v)) → oV κ (oL x b) 4 (oQL κ) (cmb σ τ) 1271 [(0, .ref b0), (1, .ref (xa x 0)), (2, .ref (b 0)), (3, .int a3)] [] (lt (a3 + (6 : Int32)) K) := by
    intro σ τ K hK
    refine r_iinc (pc := 1271) (v := (6 : Int32)) (lv1 := fun y => [(0, _), (1, _), (2, _), (3, .int y)]) C dL_law_1271 ic_6 3 rfl (by decide) [1, 2, 3, 0] (fun _ => rfl) (fun v => ?_)
    refine r_goto (pc := 1274) (tgt := 18) C dL_law_1274 (by decide) ?_
    exact hK v
  unfold f_law_c31
  refine r_aldn (pc := 1176) C dL_law_1176 1 rfl ?_
  refine r_LXi (pc := 1177) (na := 0) (As := []) C (fun l hI => m_X9_restore l _ hI  σ) gL_law_X9_restore rfl (by decide +kernel) rfl (by decide) (by decide) rfl (Nat.le_of_ble_eq_true rfl) dL_law_1177 (fun r1 s2 => ?_)
  refine r_aldn (pc := 1180) C dL_law_1180 2 rfl ?_
  refine r_LMi (pc := 1181) (na := 0) (As := []) C (fun l hI => m_X10_restore l _ hI  τ) gL_law_X10_restore rfl (by decide +kernel) rfl (by decide) (by decide) rfl (Nat.le_of_ble_eq_true rfl) dL_law_1181 (fun r3 t4 => ?_)
  refine r_iceq (pc := 1184) (tgt := 1271) C dL_law_1184 (by decide) ?_ ?_
  · exact back s2 t4 _ (fun v => hrec v _ _)
  · refine r_iconst (pc := 1187) (v := (0 : Int32)) C dL_law_1187 ic_0 ?_
    exact r_Lret0 C dL_law_1188
set_option maxHeartbeats 4000000 in
set_option maxRecDepth 100000 in
theorem v_law_c32 {κ : oK} {x : oXp} {b : Nat → Nat} {b0 L : Nat} {xs : Nat → Int32} (C : oC κ (oL x b) 4 cL_law RL wsL_law 2000 (some .boolean)) (S : oS κ (oL x b) b0 L xs) (hz : lwK κ b0 (oL x b)) (rec : Int32 → Sg → Sg → Option (Int32 × Sg)) (hrec : ∀ (a3 : Int32) (σ τ : Sg), oV κ (oL x b) 4 (oQL κ) (cmb σ τ) 18 [(0, .ref b0), (1, .ref (xa x 0)), (2, .ref (b 0)), (3, .int a3)] [] (rec a3 σ τ)) (a3 : Int32) (σ τ : Sg) : oV κ (oL x b) 4 (oQL κ) (cmb σ τ) 1189 [(0, .ref b0), (1, .ref (xa x 0)), (2, .ref (b 0)), (3, .int a3)] [] (f_law_c32 L xs rec a3 σ τ) := by
  have back : ∀ (σ τ : Sg) (K : Int32 → Option (Int32 × Sg)), (∀ v : Int32, oV κ (oL x b) 4 (oQL κ) (cmb σ τ) 18 [(0, .ref b0), (1, .ref (xa x 0)), (2, .ref (b 0)), (3, .int v)] [] (K v)) → oV κ (oL x b) 4 (oQL κ) (cmb σ τ) 1271 [(0, .ref b0), (1, .ref (xa x 0)), (2, .ref (b 0)), (3, .int a3)] [] (lt (a3 + (6 : Int32)) K) := by
    intro σ τ K hK
    refine r_iinc (pc := 1271) (v := (6 : Int32)) (lv1 := fun y => [(0, _), (1, _), (2, _), (3, .int y)]) C dL_law_1271 ic_6 3 rfl (by decide) [1, 2, 3, 0] (fun _ => rfl) (fun v => ?_)
    refine r_goto (pc := 1274) (tgt := 18) C dL_law_1274 (by decide) ?_
    exact hK v
  unfold f_law_c32
  refine r_aldn (pc := 1189) C dL_law_1189 1 rfl ?_
  refine r_aldn (pc := 1190) C dL_law_1190 0 rfl ?_
  refine r_ildn (pc := 1191) C dL_law_1191 3 rfl ?_
  refine r_iconst (pc := 1192) (v := (1 : Int32)) C dL_law_1192 ic_1 ?_
  refine r_iadd (pc := 1193) C dL_law_1193 ?_
  refine r_sld (pc := 1194) C S dL_law_1194 ?_
  refine r_LXi (pc := 1195) (na := 1) (As := [.int (xs (a3 + (1 : Int32)).toNatClampNeg)]) C (fun l hI => m_X9_tell l _ hI (xs (a3 + (1 : Int32)).toNatClampNeg) σ) gL_law_X9_tell rfl (by decide +kernel) rfl (by decide) (by decide) rfl (Nat.le_of_ble_eq_true rfl) dL_law_1195 (fun r1 s2 => ?_)
  refine r_aldn (pc := 1198) C dL_law_1198 2 rfl ?_
  refine r_aldn (pc := 1199) C dL_law_1199 0 rfl ?_
  refine r_ildn (pc := 1200) C dL_law_1200 3 rfl ?_
  refine r_iconst (pc := 1201) (v := (1 : Int32)) C dL_law_1201 ic_1 ?_
  refine r_iadd (pc := 1202) C dL_law_1202 ?_
  refine r_sld (pc := 1203) C S dL_law_1203 ?_
  refine r_LMi (pc := 1204) (na := 1) (As := [.int (xs (a3 + (1 : Int32)).toNatClampNeg)]) C (fun l hI => m_X10_tell l _ hI (xs (a3 + (1 : Int32)).toNatClampNeg) τ) gL_law_X10_tell rfl (by decide +kernel) rfl (by decide) (by decide) rfl (Nat.le_of_ble_eq_true rfl) dL_law_1204 (fun r3 t4 => ?_)
  refine r_iceq (pc := 1207) (tgt := 1271) C dL_law_1207 (by decide) ?_ ?_
  · exact back s2 t4 _ (fun v => hrec v _ _)
  · refine r_iconst (pc := 1210) (v := (0 : Int32)) C dL_law_1210 ic_0 ?_
    exact r_Lret0 C dL_law_1211
set_option maxHeartbeats 4000000 in
set_option maxRecDepth 100000 in
theorem v_law_c33 {κ : oK} {x : oXp} {b : Nat → Nat} {b0 L : Nat} {xs : Nat → Int32} (C : oC κ (oL x b) 4 cL_law RL wsL_law 2000 (some .boolean)) (S : oS κ (oL x b) b0 L xs) (hz : lwK κ b0 (oL x b)) (rec : Int32 → Sg → Sg → Option (Int32 × Sg)) (hrec : ∀ (a3 : Int32) (σ τ : Sg), oV κ (oL x b) 4 (oQL κ) (cmb σ τ) 18 [(0, .ref b0), (1, .ref (xa x 0)), (2, .ref (b 0)), (3, .int a3)] [] (rec a3 σ τ)) (a3 : Int32) (σ τ : Sg) : oV κ (oL x b) 4 (oQL κ) (cmb σ τ) 1212 [(0, .ref b0), (1, .ref (xa x 0)), (2, .ref (b 0)), (3, .int a3)] [] (f_law_c33 L xs rec a3 σ τ) := by
  have back : ∀ (σ τ : Sg) (K : Int32 → Option (Int32 × Sg)), (∀ v : Int32, oV κ (oL x b) 4 (oQL κ) (cmb σ τ) 18 [(0, .ref b0), (1, .ref (xa x 0)), (2, .ref (b 0)), (3, .int v)] [] (K v)) → oV κ (oL x b) 4 (oQL κ) (cmb σ τ) 1271 [(0, .ref b0), (1, .ref (xa x 0)), (2, .ref (b 0)), (3, .int a3)] [] (lt (a3 + (6 : Int32)) K) := by
    intro σ τ K hK
    refine r_iinc (pc := 1271) (v := (6 : Int32)) (lv1 := fun y => [(0, _), (1, _), (2, _), (3, .int y)]) C dL_law_1271 ic_6 3 rfl (by decide) [1, 2, 3, 0] (fun _ => rfl) (fun v => ?_)
    refine r_goto (pc := 1274) (tgt := 18) C dL_law_1274 (by decide) ?_
    exact hK v
  unfold f_law_c33
  refine r_aldn (pc := 1212) C dL_law_1212 1 rfl ?_
  refine r_LXi (pc := 1213) (na := 0) (As := []) C (fun l hI => m_X9_check l _ hI  σ) gL_law_X9_check rfl (by decide +kernel) rfl (by decide) (by decide) rfl (Nat.le_of_ble_eq_true rfl) dL_law_1213 (fun r1 s2 => ?_)
  refine r_aldn (pc := 1216) C dL_law_1216 2 rfl ?_
  refine r_LMi (pc := 1217) (na := 0) (As := []) C (fun l hI => m_X10_check l _ hI  τ) gL_law_X10_check rfl (by decide +kernel) rfl (by decide) (by decide) rfl (Nat.le_of_ble_eq_true rfl) dL_law_1217 (fun r3 t4 => ?_)
  refine r_iceq (pc := 1220) (tgt := 1271) C dL_law_1220 (by decide) ?_ ?_
  · exact back s2 t4 _ (fun v => hrec v _ _)
  · refine r_iconst (pc := 1223) (v := (0 : Int32)) C dL_law_1223 ic_0 ?_
    exact r_Lret0 C dL_law_1224
set_option maxHeartbeats 4000000 in
set_option maxRecDepth 100000 in
theorem v_law_c34 {κ : oK} {x : oXp} {b : Nat → Nat} {b0 L : Nat} {xs : Nat → Int32} (C : oC κ (oL x b) 4 cL_law RL wsL_law 2000 (some .boolean)) (S : oS κ (oL x b) b0 L xs) (hz : lwK κ b0 (oL x b)) (rec : Int32 → Sg → Sg → Option (Int32 × Sg)) (hrec : ∀ (a3 : Int32) (σ τ : Sg), oV κ (oL x b) 4 (oQL κ) (cmb σ τ) 18 [(0, .ref b0), (1, .ref (xa x 0)), (2, .ref (b 0)), (3, .int a3)] [] (rec a3 σ τ)) (a3 : Int32) (σ τ : Sg) : oV κ (oL x b) 4 (oQL κ) (cmb σ τ) 1225 [(0, .ref b0), (1, .ref (xa x 0)), (2, .ref (b 0)), (3, .int a3)] [] (f_law_c34 L xs rec a3 σ τ) := by
  have back : ∀ (σ τ : Sg) (K : Int32 → Option (Int32 × Sg)), (∀ v : Int32, oV κ (oL x b) 4 (oQL κ) (cmb σ τ) 18 [(0, .ref b0), (1, .ref (xa x 0)), (2, .ref (b 0)), (3, .int v)] [] (K v)) → oV κ (oL x b) 4 (oQL κ) (cmb σ τ) 1271 [(0, .ref b0), (1, .ref (xa x 0)), (2, .ref (b 0)), (3, .int a3)] [] (lt (a3 + (6 : Int32)) K) := by
    intro σ τ K hK
    refine r_iinc (pc := 1271) (v := (6 : Int32)) (lv1 := fun y => [(0, _), (1, _), (2, _), (3, .int y)]) C dL_law_1271 ic_6 3 rfl (by decide) [1, 2, 3, 0] (fun _ => rfl) (fun v => ?_)
    refine r_goto (pc := 1274) (tgt := 18) C dL_law_1274 (by decide) ?_
    exact hK v
  unfold f_law_c34
  refine r_aldn (pc := 1225) C dL_law_1225 1 rfl ?_
  refine r_aldn (pc := 1226) C dL_law_1226 0 rfl ?_
  refine r_ildn (pc := 1227) C dL_law_1227 3 rfl ?_
  refine r_iconst (pc := 1228) (v := (1 : Int32)) C dL_law_1228 ic_1 ?_
  refine r_iadd (pc := 1229) C dL_law_1229 ?_
  refine r_sld (pc := 1230) C S dL_law_1230 ?_
  refine r_LXi (pc := 1231) (na := 1) (As := [.int (xs (a3 + (1 : Int32)).toNatClampNeg)]) C (fun l hI => m_X9_count l _ hI (xs (a3 + (1 : Int32)).toNatClampNeg) σ) gL_law_X9_count rfl (by decide +kernel) rfl (by decide) (by decide) rfl (Nat.le_of_ble_eq_true rfl) dL_law_1231 (fun r1 s2 => ?_)
  refine r_aldn (pc := 1234) C dL_law_1234 2 rfl ?_
  refine r_aldn (pc := 1235) C dL_law_1235 0 rfl ?_
  refine r_ildn (pc := 1236) C dL_law_1236 3 rfl ?_
  refine r_iconst (pc := 1237) (v := (1 : Int32)) C dL_law_1237 ic_1 ?_
  refine r_iadd (pc := 1238) C dL_law_1238 ?_
  refine r_sld (pc := 1239) C S dL_law_1239 ?_
  refine r_LMi (pc := 1240) (na := 1) (As := [.int (xs (a3 + (1 : Int32)).toNatClampNeg)]) C (fun l hI => m_X10_count l _ hI (xs (a3 + (1 : Int32)).toNatClampNeg) τ) gL_law_X10_count rfl (by decide +kernel) rfl (by decide) (by decide) rfl (Nat.le_of_ble_eq_true rfl) dL_law_1240 (fun r3 t4 => ?_)
  refine r_iceq (pc := 1243) (tgt := 1271) C dL_law_1243 (by decide) ?_ ?_
  · exact back s2 t4 _ (fun v => hrec v _ _)
  · refine r_iconst (pc := 1246) (v := (0 : Int32)) C dL_law_1246 ic_0 ?_
    exact r_Lret0 C dL_law_1247
set_option maxHeartbeats 4000000 in
set_option maxRecDepth 100000 in
theorem v_law_c35 {κ : oK} {x : oXp} {b : Nat → Nat} {b0 L : Nat} {xs : Nat → Int32} (C : oC κ (oL x b) 4 cL_law RL wsL_law 2000 (some .boolean)) (S : oS κ (oL x b) b0 L xs) (hz : lwK κ b0 (oL x b)) (rec : Int32 → Sg → Sg → Option (Int32 × Sg)) (hrec : ∀ (a3 : Int32) (σ τ : Sg), oV κ (oL x b) 4 (oQL κ) (cmb σ τ) 18 [(0, .ref b0), (1, .ref (xa x 0)), (2, .ref (b 0)), (3, .int a3)] [] (rec a3 σ τ)) (a3 : Int32) (σ τ : Sg) : oV κ (oL x b) 4 (oQL κ) (cmb σ τ) 1248 [(0, .ref b0), (1, .ref (xa x 0)), (2, .ref (b 0)), (3, .int a3)] [] (f_law_c35 L xs rec a3 σ τ) := by
  have back : ∀ (σ τ : Sg) (K : Int32 → Option (Int32 × Sg)), (∀ v : Int32, oV κ (oL x b) 4 (oQL κ) (cmb σ τ) 18 [(0, .ref b0), (1, .ref (xa x 0)), (2, .ref (b 0)), (3, .int v)] [] (K v)) → oV κ (oL x b) 4 (oQL κ) (cmb σ τ) 1271 [(0, .ref b0), (1, .ref (xa x 0)), (2, .ref (b 0)), (3, .int a3)] [] (lt (a3 + (6 : Int32)) K) := by
    intro σ τ K hK
    refine r_iinc (pc := 1271) (v := (6 : Int32)) (lv1 := fun y => [(0, _), (1, _), (2, _), (3, .int y)]) C dL_law_1271 ic_6 3 rfl (by decide) [1, 2, 3, 0] (fun _ => rfl) (fun v => ?_)
    refine r_goto (pc := 1274) (tgt := 18) C dL_law_1274 (by decide) ?_
    exact hK v
  unfold f_law_c35
  refine r_aldn (pc := 1248) C dL_law_1248 1 rfl ?_
  refine r_aldn (pc := 1249) C dL_law_1249 0 rfl ?_
  refine r_ildn (pc := 1250) C dL_law_1250 3 rfl ?_
  refine r_iconst (pc := 1251) (v := (1 : Int32)) C dL_law_1251 ic_1 ?_
  refine r_iadd (pc := 1252) C dL_law_1252 ?_
  refine r_sld (pc := 1253) C S dL_law_1253 ?_
  refine r_LXi (pc := 1254) (na := 1) (As := [.int (xs (a3 + (1 : Int32)).toNatClampNeg)]) C (fun l hI => m_X9_told l _ hI (xs (a3 + (1 : Int32)).toNatClampNeg) σ) gL_law_X9_told rfl (by decide +kernel) rfl (by decide) (by decide) rfl (Nat.le_of_ble_eq_true rfl) dL_law_1254 (fun r1 s2 => ?_)
  refine r_aldn (pc := 1257) C dL_law_1257 2 rfl ?_
  refine r_aldn (pc := 1258) C dL_law_1258 0 rfl ?_
  refine r_ildn (pc := 1259) C dL_law_1259 3 rfl ?_
  refine r_iconst (pc := 1260) (v := (1 : Int32)) C dL_law_1260 ic_1 ?_
  refine r_iadd (pc := 1261) C dL_law_1261 ?_
  refine r_sld (pc := 1262) C S dL_law_1262 ?_
  refine r_LMi (pc := 1263) (na := 1) (As := [.int (xs (a3 + (1 : Int32)).toNatClampNeg)]) C (fun l hI => m_X10_told l _ hI (xs (a3 + (1 : Int32)).toNatClampNeg) τ) gL_law_X10_told rfl (by decide +kernel) rfl (by decide) (by decide) rfl (Nat.le_of_ble_eq_true rfl) dL_law_1263 (fun r3 t4 => ?_)
  refine r_iceq (pc := 1266) (tgt := 1271) C dL_law_1266 (by decide) ?_ ?_
  · exact back s2 t4 _ (fun v => hrec v _ _)
  · refine r_iconst (pc := 1269) (v := (0 : Int32)) C dL_law_1269 ic_0 ?_
    exact r_Lret0 C dL_law_1270
set_option maxHeartbeats 8000000 in
set_option maxRecDepth 100000 in
theorem v_law_b {κ : oK} {x : oXp} {b : Nat → Nat} {b0 L : Nat} {xs : Nat → Int32} (C : oC κ (oL x b) 4 cL_law RL wsL_law 2000 (some .boolean)) (S : oS κ (oL x b) b0 L xs) (hz : lwK κ b0 (oL x b)) (rec : Int32 → Sg → Sg → Option (Int32 × Sg)) (hrec : ∀ (a3 : Int32) (σ τ : Sg), oV κ (oL x b) 4 (oQL κ) (cmb σ τ) 18 [(0, .ref b0), (1, .ref (xa x 0)), (2, .ref (b 0)), (3, .int a3)] [] (rec a3 σ τ)) (a3 : Int32) (σ τ : Sg) : oV κ (oL x b) 4 (oQL κ) (cmb σ τ) 18 [(0, .ref b0), (1, .ref (xa x 0)), (2, .ref (b 0)), (3, .int a3)] [] (f_law_b L xs rec a3 σ τ) := by
  unfold f_law_b
  refine r_ildn (pc := 18) C dL_law_18 3 rfl ?_
  refine r_aldn (pc := 19) C dL_law_19 0 rfl ?_
  refine r_slen (pc := 20) C S dL_law_20 ?_
  refine r_bipush (pc := 21) (v := (6 : Int32)) C dL_law_21 bp_6 ?_
  refine r_isub (pc := 23) C dL_law_23 ?_
  refine r_icgt (pc := 24) (tgt := 1277) C dL_law_24 (by decide) ?_ ?_
  · refine r_iconst (pc := 1277) (v := (1 : Int32)) C dL_law_1277 ic_1 ?_
    exact r_Lret1 C hz dL_law_1278
  · refine r_aldn (pc := 27) C dL_law_27 0 rfl ?_
    refine r_ildn (pc := 28) C dL_law_28 3 rfl ?_
    refine r_sld (pc := 29) C S dL_law_29 ?_
    refine r_bipush (pc := 30) (v := (63 : Int32)) C dL_law_30 bp_63 ?_
    refine r_iand (pc := 32) C dL_law_32 ?_
    refine r_nm (fun v1 => ?_)
    refine r_ite (fun c0 => ?_) (fun c0 => ?_)
    · refine r_tabE (pc := 33) (v := (0 : Int32)) (off := 159) (tgt := 192) C dL_law_33 c0 (by decide) (by decide) (by decide) (by decide) ?_
      exact v_law_c0 C S hz rec hrec a3 σ τ
    refine r_ite (fun c1 => ?_) (fun c1 => ?_)
    · refine r_tabE (pc := 33) (v := (1 : Int32)) (off := 212) (tgt := 245) C dL_law_33 c1 (by decide) (by decide) (by decide) (by decide) ?_
      exact v_law_c1 C S hz rec hrec a3 σ τ
    refine r_ite (fun c2 => ?_) (fun c2 => ?_)
    · refine r_tabE (pc := 33) (v := (2 : Int32)) (off := 245) (tgt := 278) C dL_law_33 c2 (by decide) (by decide) (by decide) (by decide) ?_
      exact v_law_c2 C S hz rec hrec a3 σ τ
    refine r_ite (fun c3 => ?_) (fun c3 => ?_)
    · refine r_tabE (pc := 33) (v := (3 : Int32)) (off := 278) (tgt := 311) C dL_law_33 c3 (by decide) (by decide) (by decide) (by decide) ?_
      exact v_law_c3 C S hz rec hrec a3 σ τ
    refine r_ite (fun c4 => ?_) (fun c4 => ?_)
    · refine r_tabE (pc := 33) (v := (4 : Int32)) (off := 311) (tgt := 344) C dL_law_33 c4 (by decide) (by decide) (by decide) (by decide) ?_
      exact v_law_c4 C S hz rec hrec a3 σ τ
    refine r_ite (fun c5 => ?_) (fun c5 => ?_)
    · refine r_tabE (pc := 33) (v := (5 : Int32)) (off := 344) (tgt := 377) C dL_law_33 c5 (by decide) (by decide) (by decide) (by decide) ?_
      exact v_law_c5 C S hz rec hrec a3 σ τ
    refine r_ite (fun c6 => ?_) (fun c6 => ?_)
    · refine r_tabE (pc := 33) (v := (6 : Int32)) (off := 367) (tgt := 400) C dL_law_33 c6 (by decide) (by decide) (by decide) (by decide) ?_
      exact v_law_c6 C S hz rec hrec a3 σ τ
    refine r_ite (fun c7 => ?_) (fun c7 => ?_)
    · refine r_tabE (pc := 33) (v := (7 : Int32)) (off := 400) (tgt := 433) C dL_law_33 c7 (by decide) (by decide) (by decide) (by decide) ?_
      exact v_law_c7 C S hz rec hrec a3 σ τ
    refine r_ite (fun c8 => ?_) (fun c8 => ?_)
    · refine r_tabE (pc := 33) (v := (8 : Int32)) (off := 423) (tgt := 456) C dL_law_33 c8 (by decide) (by decide) (by decide) (by decide) ?_
      exact v_law_c8 C S hz rec hrec a3 σ τ
    refine r_ite (fun c9 => ?_) (fun c9 => ?_)
    · refine r_tabE (pc := 33) (v := (9 : Int32)) (off := 486) (tgt := 519) C dL_law_33 c9 (by decide) (by decide) (by decide) (by decide) ?_
      exact v_law_c9 C S hz rec hrec a3 σ τ
    refine r_ite (fun c10 => ?_) (fun c10 => ?_)
    · refine r_tabE (pc := 33) (v := (10 : Int32)) (off := 509) (tgt := 542) C dL_law_33 c10 (by decide) (by decide) (by decide) (by decide) ?_
      exact v_law_c10 C S hz rec hrec a3 σ τ
    refine r_ite (fun c11 => ?_) (fun c11 => ?_)
    · refine r_tabE (pc := 33) (v := (11 : Int32)) (off := 532) (tgt := 565) C dL_law_33 c11 (by decide) (by decide) (by decide) (by decide) ?_
      exact v_law_c11 C S hz rec hrec a3 σ τ
    refine r_ite (fun c12 => ?_) (fun c12 => ?_)
    · refine r_tabE (pc := 33) (v := (12 : Int32)) (off := 585) (tgt := 618) C dL_law_33 c12 (by decide) (by decide) (by decide) (by decide) ?_
      exact v_law_c12 C S hz rec hrec a3 σ τ
    refine r_ite (fun c13 => ?_) (fun c13 => ?_)
    · refine r_tabE (pc := 33) (v := (13 : Int32)) (off := 608) (tgt := 641) C dL_law_33 c13 (by decide) (by decide) (by decide) (by decide) ?_
      exact v_law_c13 C S hz rec hrec a3 σ τ
    refine r_ite (fun c14 => ?_) (fun c14 => ?_)
    · refine r_tabE (pc := 33) (v := (14 : Int32)) (off := 631) (tgt := 664) C dL_law_33 c14 (by decide) (by decide) (by decide) (by decide) ?_
      exact v_law_c14 C S hz rec hrec a3 σ τ
    refine r_ite (fun c15 => ?_) (fun c15 => ?_)
    · refine r_tabE (pc := 33) (v := (15 : Int32)) (off := 654) (tgt := 687) C dL_law_33 c15 (by decide) (by decide) (by decide) (by decide) ?_
      exact v_law_c15 C S hz rec hrec a3 σ τ
    refine r_ite (fun c16 => ?_) (fun c16 => ?_)
    · refine r_tabE (pc := 33) (v := (16 : Int32)) (off := 677) (tgt := 710) C dL_law_33 c16 (by decide) (by decide) (by decide) (by decide) ?_
      exact v_law_c16 C S hz rec hrec a3 σ τ
    refine r_ite (fun c17 => ?_) (fun c17 => ?_)
    · refine r_tabE (pc := 33) (v := (17 : Int32)) (off := 700) (tgt := 733) C dL_law_33 c17 (by decide) (by decide) (by decide) (by decide) ?_
      exact v_law_c17 C S hz rec hrec a3 σ τ
    refine r_ite (fun c18 => ?_) (fun c18 => ?_)
    · refine r_tabE (pc := 33) (v := (18 : Int32)) (off := 733) (tgt := 766) C dL_law_33 c18 (by decide) (by decide) (by decide) (by decide) ?_
      exact v_law_c18 C S hz rec hrec a3 σ τ
    refine r_ite (fun c19 => ?_) (fun c19 => ?_)
    · refine r_tabE (pc := 33) (v := (19 : Int32)) (off := 766) (tgt := 799) C dL_law_33 c19 (by decide) (by decide) (by decide) (by decide) ?_
      exact v_law_c19 C S hz rec hrec a3 σ τ
    refine r_ite (fun c20 => ?_) (fun c20 => ?_)
    · refine r_tabE (pc := 33) (v := (20 : Int32)) (off := 789) (tgt := 822) C dL_law_33 c20 (by decide) (by decide) (by decide) (by decide) ?_
      exact v_law_c20 C S hz rec hrec a3 σ τ
    refine r_ite (fun c21 => ?_) (fun c21 => ?_)
    · refine r_tabE (pc := 33) (v := (21 : Int32)) (off := 812) (tgt := 845) C dL_law_33 c21 (by decide) (by decide) (by decide) (by decide) ?_
      exact v_law_c21 C S hz rec hrec a3 σ τ
    refine r_ite (fun c22 => ?_) (fun c22 => ?_)
    · refine r_tabE (pc := 33) (v := (22 : Int32)) (off := 846) (tgt := 879) C dL_law_33 c22 (by decide) (by decide) (by decide) (by decide) ?_
      exact v_law_c22 C S hz rec hrec a3 σ τ
    refine r_ite (fun c23 => ?_) (fun c23 => ?_)
    · refine r_tabE (pc := 33) (v := (23 : Int32)) (off := 869) (tgt := 902) C dL_law_33 c23 (by decide) (by decide) (by decide) (by decide) ?_
      exact v_law_c23 C S hz rec hrec a3 σ τ
    refine r_ite (fun c24 => ?_) (fun c24 => ?_)
    · refine r_tabE (pc := 33) (v := (24 : Int32)) (off := 912) (tgt := 945) C dL_law_33 c24 (by decide) (by decide) (by decide) (by decide) ?_
      exact v_law_c24 C S hz rec hrec a3 σ τ
    refine r_ite (fun c25 => ?_) (fun c25 => ?_)
    · refine r_tabE (pc := 33) (v := (25 : Int32)) (off := 935) (tgt := 968) C dL_law_33 c25 (by decide) (by decide) (by decide) (by decide) ?_
      exact v_law_c25 C S hz rec hrec a3 σ τ
    refine r_ite (fun c26 => ?_) (fun c26 => ?_)
    · refine r_tabE (pc := 33) (v := (26 : Int32)) (off := 978) (tgt := 1011) C dL_law_33 c26 (by decide) (by decide) (by decide) (by decide) ?_
      exact v_law_c26 C S hz rec hrec a3 σ τ
    refine r_ite (fun c27 => ?_) (fun c27 => ?_)
    · refine r_tabE (pc := 33) (v := (27 : Int32)) (off := 1021) (tgt := 1054) C dL_law_33 c27 (by decide) (by decide) (by decide) (by decide) ?_
      exact v_law_c27 C S hz rec hrec a3 σ τ
    refine r_ite (fun c28 => ?_) (fun c28 => ?_)
    · refine r_tabE (pc := 33) (v := (28 : Int32)) (off := 1084) (tgt := 1117) C dL_law_33 c28 (by decide) (by decide) (by decide) (by decide) ?_
      exact v_law_c28 C S hz rec hrec a3 σ τ
    refine r_ite (fun c29 => ?_) (fun c29 => ?_)
    · refine r_tabE (pc := 33) (v := (29 : Int32)) (off := 1107) (tgt := 1140) C dL_law_33 c29 (by decide) (by decide) (by decide) (by decide) ?_
      exact v_law_c29 C S hz rec hrec a3 σ τ
    refine r_ite (fun c30 => ?_) (fun c30 => ?_)
    · refine r_tabE (pc := 33) (v := (30 : Int32)) (off := 1130) (tgt := 1163) C dL_law_33 c30 (by decide) (by decide) (by decide) (by decide) ?_
      exact v_law_c30 C S hz rec hrec a3 σ τ
    refine r_ite (fun c31 => ?_) (fun c31 => ?_)
    · refine r_tabE (pc := 33) (v := (31 : Int32)) (off := 1143) (tgt := 1176) C dL_law_33 c31 (by decide) (by decide) (by decide) (by decide) ?_
      exact v_law_c31 C S hz rec hrec a3 σ τ
    refine r_ite (fun c32 => ?_) (fun c32 => ?_)
    · refine r_tabE (pc := 33) (v := (32 : Int32)) (off := 1156) (tgt := 1189) C dL_law_33 c32 (by decide) (by decide) (by decide) (by decide) ?_
      exact v_law_c32 C S hz rec hrec a3 σ τ
    refine r_ite (fun c33 => ?_) (fun c33 => ?_)
    · refine r_tabE (pc := 33) (v := (33 : Int32)) (off := 1179) (tgt := 1212) C dL_law_33 c33 (by decide) (by decide) (by decide) (by decide) ?_
      exact v_law_c33 C S hz rec hrec a3 σ τ
    refine r_ite (fun c34 => ?_) (fun c34 => ?_)
    · refine r_tabE (pc := 33) (v := (34 : Int32)) (off := 1192) (tgt := 1225) C dL_law_33 c34 (by decide) (by decide) (by decide) (by decide) ?_
      exact v_law_c34 C S hz rec hrec a3 σ τ
    refine r_ite (fun c35 => ?_) (fun c35 => ?_)
    · refine r_tabE (pc := 33) (v := (35 : Int32)) (off := 1215) (tgt := 1248) C dL_law_33 c35 (by decide) (by decide) (by decide) (by decide) ?_
      exact v_law_c35 C S hz rec hrec a3 σ τ
    refine r_tabO (pc := 33) (tgt := 1271) C dL_law_33 (by have q0 := lv_neT (k := (0 : Int32)) (a := 0) c0 (by decide); have q1 := lv_neT (k := (1 : Int32)) (a := 1) c1 (by decide); have q2 := lv_neT (k := (2 : Int32)) (a := 2) c2 (by decide); have q3 := lv_neT (k := (3 : Int32)) (a := 3) c3 (by decide); have q4 := lv_neT (k := (4 : Int32)) (a := 4) c4 (by decide); have q5 := lv_neT (k := (5 : Int32)) (a := 5) c5 (by decide); have q6 := lv_neT (k := (6 : Int32)) (a := 6) c6 (by decide); have q7 := lv_neT (k := (7 : Int32)) (a := 7) c7 (by decide); have q8 := lv_neT (k := (8 : Int32)) (a := 8) c8 (by decide); have q9 := lv_neT (k := (9 : Int32)) (a := 9) c9 (by decide); have q10 := lv_neT (k := (10 : Int32)) (a := 10) c10 (by decide); have q11 := lv_neT (k := (11 : Int32)) (a := 11) c11 (by decide); have q12 := lv_neT (k := (12 : Int32)) (a := 12) c12 (by decide); have q13 := lv_neT (k := (13 : Int32)) (a := 13) c13 (by decide); have q14 := lv_neT (k := (14 : Int32)) (a := 14) c14 (by decide); have q15 := lv_neT (k := (15 : Int32)) (a := 15) c15 (by decide); have q16 := lv_neT (k := (16 : Int32)) (a := 16) c16 (by decide); have q17 := lv_neT (k := (17 : Int32)) (a := 17) c17 (by decide); have q18 := lv_neT (k := (18 : Int32)) (a := 18) c18 (by decide); have q19 := lv_neT (k := (19 : Int32)) (a := 19) c19 (by decide); have q20 := lv_neT (k := (20 : Int32)) (a := 20) c20 (by decide); have q21 := lv_neT (k := (21 : Int32)) (a := 21) c21 (by decide); have q22 := lv_neT (k := (22 : Int32)) (a := 22) c22 (by decide); have q23 := lv_neT (k := (23 : Int32)) (a := 23) c23 (by decide); have q24 := lv_neT (k := (24 : Int32)) (a := 24) c24 (by decide); have q25 := lv_neT (k := (25 : Int32)) (a := 25) c25 (by decide); have q26 := lv_neT (k := (26 : Int32)) (a := 26) c26 (by decide); have q27 := lv_neT (k := (27 : Int32)) (a := 27) c27 (by decide); have q28 := lv_neT (k := (28 : Int32)) (a := 28) c28 (by decide); have q29 := lv_neT (k := (29 : Int32)) (a := 29) c29 (by decide); have q30 := lv_neT (k := (30 : Int32)) (a := 30) c30 (by decide); have q31 := lv_neT (k := (31 : Int32)) (a := 31) c31 (by decide); have q32 := lv_neT (k := (32 : Int32)) (a := 32) c32 (by decide); have q33 := lv_neT (k := (33 : Int32)) (a := 33) c33 (by decide); have q34 := lv_neT (k := (34 : Int32)) (a := 34) c34 (by decide); have q35 := lv_neT (k := (35 : Int32)) (a := 35) c35 (by decide); omega) (by decide) ?_
    refine r_iinc (pc := 1271) (v := (6 : Int32)) (lv1 := fun y => [(0, _), (1, _), (2, _), (3, .int y)]) C dL_law_1271 ic_6 3 rfl (by decide) [1, 2, 3, 0] (fun _ => rfl) (fun v => ?_)
    refine r_goto (pc := 1274) (tgt := 18) C dL_law_1274 (by decide) ?_
    exact hrec v σ τ
theorem v_law {κ : oK} {x : oXp} {b : Nat → Nat} {b0 L : Nat} {xs : Nat → Int32} (C : oC κ (oL x b) 4 cL_law RL wsL_law 2000 (some .boolean)) (S : oS κ (oL x b) b0 L xs) (hz : lwK κ b0 (oL x b)) : ∀ (n : Nat) (a3 : Int32) (σ τ : Sg), oV κ (oL x b) 4 (oQL κ) (cmb σ τ) 18 [(0, .ref b0), (1, .ref (xa x 0)), (2, .ref (b 0)), (3, .int a3)] [] (f_law L xs n a3 σ τ) := by
  intro n
  induction n with
  | zero => intros; exact r_none
  | succ n ih => exact v_law_b C S hz _ ih
