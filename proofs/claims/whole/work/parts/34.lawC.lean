set_option maxHeartbeats 4000000 in
set_option maxRecDepth 100000 in
theorem lc_state {Rel : z_M → z_M → Prop} (hp : p_state Rel) {X : z_Ct} {a2 : Nat → Nat} {b L : Nat} {xs : Nat → Int32} (C : l_Cx X a2 b L xs) {i : Int32} (hi0 : vp_in i L) (hi1 : vp_in (i + 1) L) (hi2 : vp_in (i + 2) L) (hi3 : vp_in (i + 3) L) (hi4 : vp_in (i + 4) L) (hi5 : vp_in (i + 5) L) {σ τ : z_M} (hrel : Rel σ τ) (kk : ∀ σ τ : z_M, Rel σ τ → l_W X a2 1184 [some (.ref b), some (.ref (z_a X 0)), some (.ref (a2 0)), some (.int i)] [] σ τ) : l_W X a2 176 [some (.ref b), some (.ref (z_a X 0)), some (.ref (a2 0)), some (.int i)] [] σ τ := by
  obtain ⟨r, σ1, τ1, m1, m2, hrel1⟩ := hp (xs (i + 1).toNatClampNeg) σ τ hrel
  refine l_aload_n C dL_law_176 rfl rfl ?_
  refine l_aload_n C dL_law_177 rfl rfl ?_
  refine l_iload_n C dL_law_178 rfl rfl ?_
  refine l_iconst (v := 1) C dL_law_179 (by decide) ?_
  refine l_iadd C dL_law_180 ?_
  refine l_sld C hi1 dL_law_181 ?_
  refine l_c1 (As := [.int (xs (i + 1).toNatClampNeg)]) (st := []) C (t11_state (xs (i + 1).toNatClampNeg) m1) kvX11_state rfl mlL_13 rfl (by decide) rfl (Nat.le_of_ble_eq_true rfl) dL_law_182 ?_
  refine l_aload_n C dL_law_185 rfl rfl ?_
  refine l_aload_n C dL_law_186 rfl rfl ?_
  refine l_iload_n C dL_law_187 rfl rfl ?_
  refine l_iconst (v := 1) C dL_law_188 (by decide) ?_
  refine l_iadd C dL_law_189 ?_
  refine l_sld C hi1 dL_law_190 ?_
  refine l_c2 (As := [.int (xs (i + 1).toNatClampNeg)]) (st := [.int r]) C (t12_state (xs (i + 1).toNatClampNeg) m2) kvX12_state rfl mlL_17 rfl (by decide) rfl (Nat.le_of_ble_eq_true rfl) dL_law_191 ?_
  refine l_icmp_eq (tgt := 1184) C dL_law_194 (by decide) ?_
  exact kk σ1 τ1 hrel1
set_option maxHeartbeats 4000000 in
set_option maxRecDepth 100000 in
theorem lc_house {Rel : z_M → z_M → Prop} (hp : p_house Rel) {X : z_Ct} {a2 : Nat → Nat} {b L : Nat} {xs : Nat → Int32} (C : l_Cx X a2 b L xs) {i : Int32} (hi0 : vp_in i L) (hi1 : vp_in (i + 1) L) (hi2 : vp_in (i + 2) L) (hi3 : vp_in (i + 3) L) (hi4 : vp_in (i + 4) L) (hi5 : vp_in (i + 5) L) {σ τ : z_M} (hrel : Rel σ τ) (kk : ∀ σ τ : z_M, Rel σ τ → l_W X a2 1184 [some (.ref b), some (.ref (z_a X 0)), some (.ref (a2 0)), some (.int i)] [] σ τ) : l_W X a2 199 [some (.ref b), some (.ref (z_a X 0)), some (.ref (a2 0)), some (.int i)] [] σ τ := by
  obtain ⟨r, σ1, τ1, m1, m2, hrel1⟩ := hp σ τ hrel
  refine l_aload_n C dL_law_199 rfl rfl ?_
  refine l_c1 (As := []) (st := []) C (t11_house m1) kvX11_house rfl mlL_18 rfl (by decide) rfl (Nat.le_of_ble_eq_true rfl) dL_law_200 ?_
  refine l_aload_n C dL_law_203 rfl rfl ?_
  refine l_c2 (As := []) (st := [.int r]) C (t12_house m2) kvX12_house rfl mlL_22 rfl (by decide) rfl (Nat.le_of_ble_eq_true rfl) dL_law_204 ?_
  refine l_icmp_eq (tgt := 1184) C dL_law_207 (by decide) ?_
  exact kk σ1 τ1 hrel1
set_option maxHeartbeats 4000000 in
set_option maxRecDepth 100000 in
theorem lc_set {Rel : z_M → z_M → Prop} (hp : p_set Rel) {X : z_Ct} {a2 : Nat → Nat} {b L : Nat} {xs : Nat → Int32} (C : l_Cx X a2 b L xs) {i : Int32} (hi0 : vp_in i L) (hi1 : vp_in (i + 1) L) (hi2 : vp_in (i + 2) L) (hi3 : vp_in (i + 3) L) (hi4 : vp_in (i + 4) L) (hi5 : vp_in (i + 5) L) {σ τ : z_M} (hrel : Rel σ τ) (kk : ∀ σ τ : z_M, Rel σ τ → l_W X a2 1184 [some (.ref b), some (.ref (z_a X 0)), some (.ref (a2 0)), some (.int i)] [] σ τ) : l_W X a2 212 [some (.ref b), some (.ref (z_a X 0)), some (.ref (a2 0)), some (.int i)] [] σ τ := by
  obtain ⟨r, σ1, τ1, m1, m2, hrel1⟩ := hp (xs (i + 1).toNatClampNeg) (xs (i + 2).toNatClampNeg) (xs (i + 3).toNatClampNeg) σ τ hrel
  refine l_aload_n C dL_law_212 rfl rfl ?_
  refine l_aload_n C dL_law_213 rfl rfl ?_
  refine l_iload_n C dL_law_214 rfl rfl ?_
  refine l_iconst (v := 1) C dL_law_215 (by decide) ?_
  refine l_iadd C dL_law_216 ?_
  refine l_sld C hi1 dL_law_217 ?_
  refine l_aload_n C dL_law_218 rfl rfl ?_
  refine l_iload_n C dL_law_219 rfl rfl ?_
  refine l_iconst (v := 2) C dL_law_220 (by decide) ?_
  refine l_iadd C dL_law_221 ?_
  refine l_sld C hi2 dL_law_222 ?_
  refine l_aload_n C dL_law_223 rfl rfl ?_
  refine l_iload_n C dL_law_224 rfl rfl ?_
  refine l_iconst (v := 3) C dL_law_225 (by decide) ?_
  refine l_iadd C dL_law_226 ?_
  refine l_sld C hi3 dL_law_227 ?_
  refine l_c1 (As := [.int (xs (i + 1).toNatClampNeg), .int (xs (i + 2).toNatClampNeg), .int (xs (i + 3).toNatClampNeg)]) (st := []) C (t11_set (xs (i + 1).toNatClampNeg) (xs (i + 2).toNatClampNeg) (xs (i + 3).toNatClampNeg) m1) kvX11_set rfl mlL_23 rfl (by decide) rfl (Nat.le_of_ble_eq_true rfl) dL_law_228 ?_
  refine l_aload_n C dL_law_231 rfl rfl ?_
  refine l_aload_n C dL_law_232 rfl rfl ?_
  refine l_iload_n C dL_law_233 rfl rfl ?_
  refine l_iconst (v := 1) C dL_law_234 (by decide) ?_
  refine l_iadd C dL_law_235 ?_
  refine l_sld C hi1 dL_law_236 ?_
  refine l_aload_n C dL_law_237 rfl rfl ?_
  refine l_iload_n C dL_law_238 rfl rfl ?_
  refine l_iconst (v := 2) C dL_law_239 (by decide) ?_
  refine l_iadd C dL_law_240 ?_
  refine l_sld C hi2 dL_law_241 ?_
  refine l_aload_n C dL_law_242 rfl rfl ?_
  refine l_iload_n C dL_law_243 rfl rfl ?_
  refine l_iconst (v := 3) C dL_law_244 (by decide) ?_
  refine l_iadd C dL_law_245 ?_
  refine l_sld C hi3 dL_law_246 ?_
  refine l_c2 (As := [.int (xs (i + 1).toNatClampNeg), .int (xs (i + 2).toNatClampNeg), .int (xs (i + 3).toNatClampNeg)]) (st := [.int r]) C (t12_set (xs (i + 1).toNatClampNeg) (xs (i + 2).toNatClampNeg) (xs (i + 3).toNatClampNeg) m2) kvX12_set rfl mlL_27 rfl (by decide) rfl (Nat.le_of_ble_eq_true rfl) dL_law_247 ?_
  refine l_icmp_eq (tgt := 1184) C dL_law_250 (by decide) ?_
  exact kk σ1 τ1 hrel1
set_option maxHeartbeats 4000000 in
set_option maxRecDepth 100000 in
theorem lc_line {Rel : z_M → z_M → Prop} (hp : p_line Rel) {X : z_Ct} {a2 : Nat → Nat} {b L : Nat} {xs : Nat → Int32} (C : l_Cx X a2 b L xs) {i : Int32} (hi0 : vp_in i L) (hi1 : vp_in (i + 1) L) (hi2 : vp_in (i + 2) L) (hi3 : vp_in (i + 3) L) (hi4 : vp_in (i + 4) L) (hi5 : vp_in (i + 5) L) {σ τ : z_M} (hrel : Rel σ τ) (kk : ∀ σ τ : z_M, Rel σ τ → l_W X a2 1184 [some (.ref b), some (.ref (z_a X 0)), some (.ref (a2 0)), some (.int i)] [] σ τ) : l_W X a2 255 [some (.ref b), some (.ref (z_a X 0)), some (.ref (a2 0)), some (.int i)] [] σ τ := by
  obtain ⟨r, σ1, τ1, m1, m2, hrel1⟩ := hp (xs (i + 1).toNatClampNeg) (xs (i + 2).toNatClampNeg) (if xs (i + 3).toNatClampNeg = 0 then 0 else 1) σ τ (by split <;> simp) hrel
  by_cases hz : xs (i + 3).toNatClampNeg = 0
  · rw [if_pos hz] at m1 m2
    refine l_aload_n C dL_law_255 rfl rfl ?_
    refine l_aload_n C dL_law_256 rfl rfl ?_
    refine l_iload_n C dL_law_257 rfl rfl ?_
    refine l_iconst (v := 1) C dL_law_258 (by decide) ?_
    refine l_iadd C dL_law_259 ?_
    refine l_sld C hi1 dL_law_260 ?_
    refine l_aload_n C dL_law_261 rfl rfl ?_
    refine l_iload_n C dL_law_262 rfl rfl ?_
    refine l_iconst (v := 2) C dL_law_263 (by decide) ?_
    refine l_iadd C dL_law_264 ?_
    refine l_sld C hi2 dL_law_265 ?_
    refine l_aload_n C dL_law_266 rfl rfl ?_
    refine l_iload_n C dL_law_267 rfl rfl ?_
    refine l_iconst (v := 3) C dL_law_268 (by decide) ?_
    refine l_iadd C dL_law_269 ?_
    refine l_sld C hi3 dL_law_270 ?_
    refine l_if_eq (tgt := 278) C dL_law_271 (by decide) (fun hc => ?_) (fun hc => ?_)
    rotate_left
    · exact absurd hz hc
    refine l_iconst (v := 0) C dL_law_278 (by decide) ?_
    refine l_c1 (As := [.int (xs (i + 1).toNatClampNeg), .int (xs (i + 2).toNatClampNeg), .int 0]) (st := []) C (t11_line (xs (i + 1).toNatClampNeg) (xs (i + 2).toNatClampNeg) 0 m1) kvX11_line rfl mlL_28 rfl (by decide) rfl (Nat.le_of_ble_eq_true rfl) dL_law_279 ?_
    refine l_aload_n C dL_law_282 rfl rfl ?_
    refine l_aload_n C dL_law_283 rfl rfl ?_
    refine l_iload_n C dL_law_284 rfl rfl ?_
    refine l_iconst (v := 1) C dL_law_285 (by decide) ?_
    refine l_iadd C dL_law_286 ?_
    refine l_sld C hi1 dL_law_287 ?_
    refine l_aload_n C dL_law_288 rfl rfl ?_
    refine l_iload_n C dL_law_289 rfl rfl ?_
    refine l_iconst (v := 2) C dL_law_290 (by decide) ?_
    refine l_iadd C dL_law_291 ?_
    refine l_sld C hi2 dL_law_292 ?_
    refine l_aload_n C dL_law_293 rfl rfl ?_
    refine l_iload_n C dL_law_294 rfl rfl ?_
    refine l_iconst (v := 3) C dL_law_295 (by decide) ?_
    refine l_iadd C dL_law_296 ?_
    refine l_sld C hi3 dL_law_297 ?_
    refine l_if_eq (tgt := 305) C dL_law_298 (by decide) (fun hc => ?_) (fun hc => ?_)
    rotate_left
    · exact absurd hz hc
    refine l_iconst (v := 0) C dL_law_305 (by decide) ?_
    refine l_c2 (As := [.int (xs (i + 1).toNatClampNeg), .int (xs (i + 2).toNatClampNeg), .int 0]) (st := [.int r]) C (t12_line (xs (i + 1).toNatClampNeg) (xs (i + 2).toNatClampNeg) 0 m2) kvX12_line rfl mlL_32 rfl (by decide) rfl (Nat.le_of_ble_eq_true rfl) dL_law_306 ?_
    refine l_icmp_eq (tgt := 1184) C dL_law_309 (by decide) ?_
    exact kk σ1 τ1 hrel1
  · rw [if_neg hz] at m1 m2
    refine l_aload_n C dL_law_255 rfl rfl ?_
    refine l_aload_n C dL_law_256 rfl rfl ?_
    refine l_iload_n C dL_law_257 rfl rfl ?_
    refine l_iconst (v := 1) C dL_law_258 (by decide) ?_
    refine l_iadd C dL_law_259 ?_
    refine l_sld C hi1 dL_law_260 ?_
    refine l_aload_n C dL_law_261 rfl rfl ?_
    refine l_iload_n C dL_law_262 rfl rfl ?_
    refine l_iconst (v := 2) C dL_law_263 (by decide) ?_
    refine l_iadd C dL_law_264 ?_
    refine l_sld C hi2 dL_law_265 ?_
    refine l_aload_n C dL_law_266 rfl rfl ?_
    refine l_iload_n C dL_law_267 rfl rfl ?_
    refine l_iconst (v := 3) C dL_law_268 (by decide) ?_
    refine l_iadd C dL_law_269 ?_
    refine l_sld C hi3 dL_law_270 ?_
    refine l_if_eq (tgt := 278) C dL_law_271 (by decide) (fun hc => ?_) (fun hc => ?_)
    · exact absurd hc hz
    refine l_iconst (v := 1) C dL_law_274 (by decide) ?_
    refine l_goto (tgt := 279) C dL_law_275 (by decide) ?_
    refine l_c1 (As := [.int (xs (i + 1).toNatClampNeg), .int (xs (i + 2).toNatClampNeg), .int 1]) (st := []) C (t11_line (xs (i + 1).toNatClampNeg) (xs (i + 2).toNatClampNeg) 1 m1) kvX11_line rfl mlL_28 rfl (by decide) rfl (Nat.le_of_ble_eq_true rfl) dL_law_279 ?_
    refine l_aload_n C dL_law_282 rfl rfl ?_
    refine l_aload_n C dL_law_283 rfl rfl ?_
    refine l_iload_n C dL_law_284 rfl rfl ?_
    refine l_iconst (v := 1) C dL_law_285 (by decide) ?_
    refine l_iadd C dL_law_286 ?_
    refine l_sld C hi1 dL_law_287 ?_
    refine l_aload_n C dL_law_288 rfl rfl ?_
    refine l_iload_n C dL_law_289 rfl rfl ?_
    refine l_iconst (v := 2) C dL_law_290 (by decide) ?_
    refine l_iadd C dL_law_291 ?_
    refine l_sld C hi2 dL_law_292 ?_
    refine l_aload_n C dL_law_293 rfl rfl ?_
    refine l_iload_n C dL_law_294 rfl rfl ?_
    refine l_iconst (v := 3) C dL_law_295 (by decide) ?_
    refine l_iadd C dL_law_296 ?_
    refine l_sld C hi3 dL_law_297 ?_
    refine l_if_eq (tgt := 305) C dL_law_298 (by decide) (fun hc => ?_) (fun hc => ?_)
    · exact absurd hc hz
    refine l_iconst (v := 1) C dL_law_301 (by decide) ?_
    refine l_goto (tgt := 306) C dL_law_302 (by decide) ?_
    refine l_c2 (As := [.int (xs (i + 1).toNatClampNeg), .int (xs (i + 2).toNatClampNeg), .int 1]) (st := [.int r]) C (t12_line (xs (i + 1).toNatClampNeg) (xs (i + 2).toNatClampNeg) 1 m2) kvX12_line rfl mlL_32 rfl (by decide) rfl (Nat.le_of_ble_eq_true rfl) dL_law_306 ?_
    refine l_icmp_eq (tgt := 1184) C dL_law_309 (by decide) ?_
    exact kk σ1 τ1 hrel1
set_option maxHeartbeats 4000000 in
set_option maxRecDepth 100000 in
theorem lc_feed {Rel : z_M → z_M → Prop} (hp : p_feed Rel) {X : z_Ct} {a2 : Nat → Nat} {b L : Nat} {xs : Nat → Int32} (C : l_Cx X a2 b L xs) {i : Int32} (hi0 : vp_in i L) (hi1 : vp_in (i + 1) L) (hi2 : vp_in (i + 2) L) (hi3 : vp_in (i + 3) L) (hi4 : vp_in (i + 4) L) (hi5 : vp_in (i + 5) L) {σ τ : z_M} (hrel : Rel σ τ) (kk : ∀ σ τ : z_M, Rel σ τ → l_W X a2 1184 [some (.ref b), some (.ref (z_a X 0)), some (.ref (a2 0)), some (.int i)] [] σ τ) : l_W X a2 314 [some (.ref b), some (.ref (z_a X 0)), some (.ref (a2 0)), some (.int i)] [] σ τ := by
  obtain ⟨r, σ1, τ1, m1, m2, hrel1⟩ := hp (xs (i + 1).toNatClampNeg) (xs (i + 2).toNatClampNeg) (xs (i + 3).toNatClampNeg) (xs (i + 4).toNatClampNeg) (xs (i + 5).toNatClampNeg) σ τ hrel
  refine l_aload_n C dL_law_314 rfl rfl ?_
  refine l_aload_n C dL_law_315 rfl rfl ?_
  refine l_iload_n C dL_law_316 rfl rfl ?_
  refine l_iconst (v := 1) C dL_law_317 (by decide) ?_
  refine l_iadd C dL_law_318 ?_
  refine l_sld C hi1 dL_law_319 ?_
  refine l_aload_n C dL_law_320 rfl rfl ?_
  refine l_iload_n C dL_law_321 rfl rfl ?_
  refine l_iconst (v := 2) C dL_law_322 (by decide) ?_
  refine l_iadd C dL_law_323 ?_
  refine l_sld C hi2 dL_law_324 ?_
  refine l_aload_n C dL_law_325 rfl rfl ?_
  refine l_iload_n C dL_law_326 rfl rfl ?_
  refine l_iconst (v := 3) C dL_law_327 (by decide) ?_
  refine l_iadd C dL_law_328 ?_
  refine l_sld C hi3 dL_law_329 ?_
  refine l_aload_n C dL_law_330 rfl rfl ?_
  refine l_iload_n C dL_law_331 rfl rfl ?_
  refine l_iconst (v := 4) C dL_law_332 (by decide) ?_
  refine l_iadd C dL_law_333 ?_
  refine l_sld C hi4 dL_law_334 ?_
  refine l_aload_n C dL_law_335 rfl rfl ?_
  refine l_iload_n C dL_law_336 rfl rfl ?_
  refine l_iconst (v := 5) C dL_law_337 (by decide) ?_
  refine l_iadd C dL_law_338 ?_
  refine l_sld C hi5 dL_law_339 ?_
  refine l_c1 (As := [.int (xs (i + 1).toNatClampNeg), .int (xs (i + 2).toNatClampNeg), .int (xs (i + 3).toNatClampNeg), .int (xs (i + 4).toNatClampNeg), .int (xs (i + 5).toNatClampNeg)]) (st := []) C (t11_feed (xs (i + 1).toNatClampNeg) (xs (i + 2).toNatClampNeg) (xs (i + 3).toNatClampNeg) (xs (i + 4).toNatClampNeg) (xs (i + 5).toNatClampNeg) m1) kvX11_feed rfl mlL_33 rfl (by decide) rfl (Nat.le_of_ble_eq_true rfl) dL_law_340 ?_
  refine l_aload_n C dL_law_343 rfl rfl ?_
  refine l_aload_n C dL_law_344 rfl rfl ?_
  refine l_iload_n C dL_law_345 rfl rfl ?_
  refine l_iconst (v := 1) C dL_law_346 (by decide) ?_
  refine l_iadd C dL_law_347 ?_
  refine l_sld C hi1 dL_law_348 ?_
  refine l_aload_n C dL_law_349 rfl rfl ?_
  refine l_iload_n C dL_law_350 rfl rfl ?_
  refine l_iconst (v := 2) C dL_law_351 (by decide) ?_
  refine l_iadd C dL_law_352 ?_
  refine l_sld C hi2 dL_law_353 ?_
  refine l_aload_n C dL_law_354 rfl rfl ?_
  refine l_iload_n C dL_law_355 rfl rfl ?_
  refine l_iconst (v := 3) C dL_law_356 (by decide) ?_
  refine l_iadd C dL_law_357 ?_
  refine l_sld C hi3 dL_law_358 ?_
  refine l_aload_n C dL_law_359 rfl rfl ?_
  refine l_iload_n C dL_law_360 rfl rfl ?_
  refine l_iconst (v := 4) C dL_law_361 (by decide) ?_
  refine l_iadd C dL_law_362 ?_
  refine l_sld C hi4 dL_law_363 ?_
  refine l_aload_n C dL_law_364 rfl rfl ?_
  refine l_iload_n C dL_law_365 rfl rfl ?_
  refine l_iconst (v := 5) C dL_law_366 (by decide) ?_
  refine l_iadd C dL_law_367 ?_
  refine l_sld C hi5 dL_law_368 ?_
  refine l_c2 (As := [.int (xs (i + 1).toNatClampNeg), .int (xs (i + 2).toNatClampNeg), .int (xs (i + 3).toNatClampNeg), .int (xs (i + 4).toNatClampNeg), .int (xs (i + 5).toNatClampNeg)]) (st := [.int r]) C (t12_feed (xs (i + 1).toNatClampNeg) (xs (i + 2).toNatClampNeg) (xs (i + 3).toNatClampNeg) (xs (i + 4).toNatClampNeg) (xs (i + 5).toNatClampNeg) m2) kvX12_feed rfl mlL_37 rfl (by decide) rfl (Nat.le_of_ble_eq_true rfl) dL_law_369 ?_
  refine l_icmp_eq (tgt := 1184) C dL_law_372 (by decide) ?_
  exact kk σ1 τ1 hrel1
set_option maxHeartbeats 4000000 in
set_option maxRecDepth 100000 in
theorem lc_end {Rel : z_M → z_M → Prop} (hp : p_end Rel) {X : z_Ct} {a2 : Nat → Nat} {b L : Nat} {xs : Nat → Int32} (C : l_Cx X a2 b L xs) {i : Int32} (hi0 : vp_in i L) (hi1 : vp_in (i + 1) L) (hi2 : vp_in (i + 2) L) (hi3 : vp_in (i + 3) L) (hi4 : vp_in (i + 4) L) (hi5 : vp_in (i + 5) L) {σ τ : z_M} (hrel : Rel σ τ) (kk : ∀ σ τ : z_M, Rel σ τ → l_W X a2 1184 [some (.ref b), some (.ref (z_a X 0)), some (.ref (a2 0)), some (.int i)] [] σ τ) : l_W X a2 377 [some (.ref b), some (.ref (z_a X 0)), some (.ref (a2 0)), some (.int i)] [] σ τ := by
  obtain ⟨r, σ1, τ1, m1, m2, hrel1⟩ := hp (xs (i + 1).toNatClampNeg) σ τ hrel
  refine l_aload_n C dL_law_377 rfl rfl ?_
  refine l_aload_n C dL_law_378 rfl rfl ?_
  refine l_iload_n C dL_law_379 rfl rfl ?_
  refine l_iconst (v := 1) C dL_law_380 (by decide) ?_
  refine l_iadd C dL_law_381 ?_
  refine l_sld C hi1 dL_law_382 ?_
  refine l_c1 (As := [.int (xs (i + 1).toNatClampNeg)]) (st := []) C (t11_end (xs (i + 1).toNatClampNeg) m1) kvX11_end rfl mlL_38 rfl (by decide) rfl (Nat.le_of_ble_eq_true rfl) dL_law_383 ?_
  refine l_aload_n C dL_law_386 rfl rfl ?_
  refine l_aload_n C dL_law_387 rfl rfl ?_
  refine l_iload_n C dL_law_388 rfl rfl ?_
  refine l_iconst (v := 1) C dL_law_389 (by decide) ?_
  refine l_iadd C dL_law_390 ?_
  refine l_sld C hi1 dL_law_391 ?_
  refine l_c2 (As := [.int (xs (i + 1).toNatClampNeg)]) (st := [.int r]) C (t12_end (xs (i + 1).toNatClampNeg) m2) kvX12_end rfl mlL_42 rfl (by decide) rfl (Nat.le_of_ble_eq_true rfl) dL_law_392 ?_
  refine l_icmp_eq (tgt := 1184) C dL_law_395 (by decide) ?_
  exact kk σ1 τ1 hrel1
set_option maxHeartbeats 4000000 in
set_option maxRecDepth 100000 in
theorem lc_text {Rel : z_M → z_M → Prop} (hp : p_text Rel) {X : z_Ct} {a2 : Nat → Nat} {b L : Nat} {xs : Nat → Int32} (C : l_Cx X a2 b L xs) {i : Int32} (hi0 : vp_in i L) (hi1 : vp_in (i + 1) L) (hi2 : vp_in (i + 2) L) (hi3 : vp_in (i + 3) L) (hi4 : vp_in (i + 4) L) (hi5 : vp_in (i + 5) L) {σ τ : z_M} (hrel : Rel σ τ) (kk : ∀ σ τ : z_M, Rel σ τ → l_W X a2 1184 [some (.ref b), some (.ref (z_a X 0)), some (.ref (a2 0)), some (.int i)] [] σ τ) : l_W X a2 400 [some (.ref b), some (.ref (z_a X 0)), some (.ref (a2 0)), some (.int i)] [] σ τ := by
  obtain ⟨r, σ1, τ1, m1, m2, hrel1⟩ := hp (xs (i + 1).toNatClampNeg) σ τ hrel
  refine l_aload_n C dL_law_400 rfl rfl ?_
  refine l_aload_n C dL_law_401 rfl rfl ?_
  refine l_iload_n C dL_law_402 rfl rfl ?_
  refine l_iconst (v := 1) C dL_law_403 (by decide) ?_
  refine l_iadd C dL_law_404 ?_
  refine l_sld C hi1 dL_law_405 ?_
  refine l_c1 (As := [.int (xs (i + 1).toNatClampNeg)]) (st := []) C (t11_text (xs (i + 1).toNatClampNeg) m1) kvX11_text rfl mlL_43 rfl (by decide) rfl (Nat.le_of_ble_eq_true rfl) dL_law_406 ?_
  refine l_aload_n C dL_law_409 rfl rfl ?_
  refine l_aload_n C dL_law_410 rfl rfl ?_
  refine l_iload_n C dL_law_411 rfl rfl ?_
  refine l_iconst (v := 1) C dL_law_412 (by decide) ?_
  refine l_iadd C dL_law_413 ?_
  refine l_sld C hi1 dL_law_414 ?_
  refine l_c2 (As := [.int (xs (i + 1).toNatClampNeg)]) (st := [.int r]) C (t12_text (xs (i + 1).toNatClampNeg) m2) kvX12_text rfl mlL_46 rfl (by decide) rfl (Nat.le_of_ble_eq_true rfl) dL_law_415 ?_
  refine l_icmp_eq (tgt := 1184) C dL_law_418 (by decide) ?_
  exact kk σ1 τ1 hrel1
set_option maxHeartbeats 4000000 in
set_option maxRecDepth 100000 in
theorem lc_fault {Rel : z_M → z_M → Prop} (hp : p_fault Rel) {X : z_Ct} {a2 : Nat → Nat} {b L : Nat} {xs : Nat → Int32} (C : l_Cx X a2 b L xs) {i : Int32} (hi0 : vp_in i L) (hi1 : vp_in (i + 1) L) (hi2 : vp_in (i + 2) L) (hi3 : vp_in (i + 3) L) (hi4 : vp_in (i + 4) L) (hi5 : vp_in (i + 5) L) {σ τ : z_M} (hrel : Rel σ τ) (kk : ∀ σ τ : z_M, Rel σ τ → l_W X a2 1184 [some (.ref b), some (.ref (z_a X 0)), some (.ref (a2 0)), some (.int i)] [] σ τ) : l_W X a2 423 [some (.ref b), some (.ref (z_a X 0)), some (.ref (a2 0)), some (.int i)] [] σ τ := by
  obtain ⟨r, σ1, τ1, m1, m2, hrel1⟩ := hp (xs (i + 1).toNatClampNeg) σ τ hrel
  refine l_aload_n C dL_law_423 rfl rfl ?_
  refine l_aload_n C dL_law_424 rfl rfl ?_
  refine l_iload_n C dL_law_425 rfl rfl ?_
  refine l_iconst (v := 1) C dL_law_426 (by decide) ?_
  refine l_iadd C dL_law_427 ?_
  refine l_sld C hi1 dL_law_428 ?_
  refine l_c1 (As := [.int (xs (i + 1).toNatClampNeg)]) (st := []) C (t11_fault (xs (i + 1).toNatClampNeg) m1) kvX11_fault rfl mlL_47 rfl (by decide) rfl (Nat.le_of_ble_eq_true rfl) dL_law_429 ?_
  refine l_aload_n C dL_law_432 rfl rfl ?_
  refine l_aload_n C dL_law_433 rfl rfl ?_
  refine l_iload_n C dL_law_434 rfl rfl ?_
  refine l_iconst (v := 1) C dL_law_435 (by decide) ?_
  refine l_iadd C dL_law_436 ?_
  refine l_sld C hi1 dL_law_437 ?_
  refine l_c2 (As := [.int (xs (i + 1).toNatClampNeg)]) (st := [.int r]) C (t12_fault (xs (i + 1).toNatClampNeg) m2) kvX12_fault rfl mlL_50 rfl (by decide) rfl (Nat.le_of_ble_eq_true rfl) dL_law_438 ?_
  refine l_icmp_eq (tgt := 1184) C dL_law_441 (by decide) ?_
  exact kk σ1 τ1 hrel1
set_option maxHeartbeats 4000000 in
set_option maxRecDepth 100000 in
theorem lc_pot {Rel : z_M → z_M → Prop} (hp : p_pot Rel) {X : z_Ct} {a2 : Nat → Nat} {b L : Nat} {xs : Nat → Int32} (C : l_Cx X a2 b L xs) {i : Int32} (hi0 : vp_in i L) (hi1 : vp_in (i + 1) L) (hi2 : vp_in (i + 2) L) (hi3 : vp_in (i + 3) L) (hi4 : vp_in (i + 4) L) (hi5 : vp_in (i + 5) L) {σ τ : z_M} (hrel : Rel σ τ) (kk : ∀ σ τ : z_M, Rel σ τ → l_W X a2 1184 [some (.ref b), some (.ref (z_a X 0)), some (.ref (a2 0)), some (.int i)] [] σ τ) : l_W X a2 446 [some (.ref b), some (.ref (z_a X 0)), some (.ref (a2 0)), some (.int i)] [] σ τ := by
  obtain ⟨r, σ1, τ1, m1, m2, hrel1⟩ := hp (xs (i + 1).toNatClampNeg) (xs (i + 2).toNatClampNeg) (xs (i + 3).toNatClampNeg) σ τ hrel
  refine l_aload_n C dL_law_446 rfl rfl ?_
  refine l_aload_n C dL_law_447 rfl rfl ?_
  refine l_iload_n C dL_law_448 rfl rfl ?_
  refine l_iconst (v := 1) C dL_law_449 (by decide) ?_
  refine l_iadd C dL_law_450 ?_
  refine l_sld C hi1 dL_law_451 ?_
  refine l_aload_n C dL_law_452 rfl rfl ?_
  refine l_iload_n C dL_law_453 rfl rfl ?_
  refine l_iconst (v := 2) C dL_law_454 (by decide) ?_
  refine l_iadd C dL_law_455 ?_
  refine l_sld C hi2 dL_law_456 ?_
  refine l_aload_n C dL_law_457 rfl rfl ?_
  refine l_iload_n C dL_law_458 rfl rfl ?_
  refine l_iconst (v := 3) C dL_law_459 (by decide) ?_
  refine l_iadd C dL_law_460 ?_
  refine l_sld C hi3 dL_law_461 ?_
  refine l_c1 (As := [.int (xs (i + 1).toNatClampNeg), .int (xs (i + 2).toNatClampNeg), .int (xs (i + 3).toNatClampNeg)]) (st := []) C (t11_pot (xs (i + 1).toNatClampNeg) (xs (i + 2).toNatClampNeg) (xs (i + 3).toNatClampNeg) m1) kvX11_pot rfl mlL_51 rfl (by decide) rfl (Nat.le_of_ble_eq_true rfl) dL_law_462 ?_
  refine l_aload_n C dL_law_465 rfl rfl ?_
  refine l_aload_n C dL_law_466 rfl rfl ?_
  refine l_iload_n C dL_law_467 rfl rfl ?_
  refine l_iconst (v := 1) C dL_law_468 (by decide) ?_
  refine l_iadd C dL_law_469 ?_
  refine l_sld C hi1 dL_law_470 ?_
  refine l_aload_n C dL_law_471 rfl rfl ?_
  refine l_iload_n C dL_law_472 rfl rfl ?_
  refine l_iconst (v := 2) C dL_law_473 (by decide) ?_
  refine l_iadd C dL_law_474 ?_
  refine l_sld C hi2 dL_law_475 ?_
  refine l_aload_n C dL_law_476 rfl rfl ?_
  refine l_iload_n C dL_law_477 rfl rfl ?_
  refine l_iconst (v := 3) C dL_law_478 (by decide) ?_
  refine l_iadd C dL_law_479 ?_
  refine l_sld C hi3 dL_law_480 ?_
  refine l_c2 (As := [.int (xs (i + 1).toNatClampNeg), .int (xs (i + 2).toNatClampNeg), .int (xs (i + 3).toNatClampNeg)]) (st := [.int r]) C (t12_pot (xs (i + 1).toNatClampNeg) (xs (i + 2).toNatClampNeg) (xs (i + 3).toNatClampNeg) m2) kvX12_pot rfl mlL_54 rfl (by decide) rfl (Nat.le_of_ble_eq_true rfl) dL_law_481 ?_
  refine l_icmp_eq (tgt := 1184) C dL_law_484 (by decide) ?_
  exact kk σ1 τ1 hrel1
set_option maxHeartbeats 4000000 in
set_option maxRecDepth 100000 in
theorem lc_water {Rel : z_M → z_M → Prop} (hp : p_water Rel) {X : z_Ct} {a2 : Nat → Nat} {b L : Nat} {xs : Nat → Int32} (C : l_Cx X a2 b L xs) {i : Int32} (hi0 : vp_in i L) (hi1 : vp_in (i + 1) L) (hi2 : vp_in (i + 2) L) (hi3 : vp_in (i + 3) L) (hi4 : vp_in (i + 4) L) (hi5 : vp_in (i + 5) L) {σ τ : z_M} (hrel : Rel σ τ) (kk : ∀ σ τ : z_M, Rel σ τ → l_W X a2 1184 [some (.ref b), some (.ref (z_a X 0)), some (.ref (a2 0)), some (.int i)] [] σ τ) : l_W X a2 489 [some (.ref b), some (.ref (z_a X 0)), some (.ref (a2 0)), some (.int i)] [] σ τ := by
  obtain ⟨r, σ1, τ1, m1, m2, hrel1⟩ := hp (xs (i + 1).toNatClampNeg) (xs (i + 2).toNatClampNeg) σ τ hrel
  refine l_aload_n C dL_law_489 rfl rfl ?_
  refine l_aload_n C dL_law_490 rfl rfl ?_
  refine l_iload_n C dL_law_491 rfl rfl ?_
  refine l_iconst (v := 1) C dL_law_492 (by decide) ?_
  refine l_iadd C dL_law_493 ?_
  refine l_sld C hi1 dL_law_494 ?_
  refine l_aload_n C dL_law_495 rfl rfl ?_
  refine l_iload_n C dL_law_496 rfl rfl ?_
  refine l_iconst (v := 2) C dL_law_497 (by decide) ?_
  refine l_iadd C dL_law_498 ?_
  refine l_sld C hi2 dL_law_499 ?_
  refine l_c1 (As := [.int (xs (i + 1).toNatClampNeg), .int (xs (i + 2).toNatClampNeg)]) (st := []) C (t11_water (xs (i + 1).toNatClampNeg) (xs (i + 2).toNatClampNeg) m1) kvX11_water rfl mlL_55 rfl (by decide) rfl (Nat.le_of_ble_eq_true rfl) dL_law_500 ?_
  refine l_aload_n C dL_law_503 rfl rfl ?_
  refine l_aload_n C dL_law_504 rfl rfl ?_
  refine l_iload_n C dL_law_505 rfl rfl ?_
  refine l_iconst (v := 1) C dL_law_506 (by decide) ?_
  refine l_iadd C dL_law_507 ?_
  refine l_sld C hi1 dL_law_508 ?_
  refine l_aload_n C dL_law_509 rfl rfl ?_
  refine l_iload_n C dL_law_510 rfl rfl ?_
  refine l_iconst (v := 2) C dL_law_511 (by decide) ?_
  refine l_iadd C dL_law_512 ?_
  refine l_sld C hi2 dL_law_513 ?_
  refine l_c2 (As := [.int (xs (i + 1).toNatClampNeg), .int (xs (i + 2).toNatClampNeg)]) (st := [.int r]) C (t12_water (xs (i + 1).toNatClampNeg) (xs (i + 2).toNatClampNeg) m2) kvX12_water rfl mlL_59 rfl (by decide) rfl (Nat.le_of_ble_eq_true rfl) dL_law_514 ?_
  refine l_icmp_eq (tgt := 1184) C dL_law_517 (by decide) ?_
  exact kk σ1 τ1 hrel1
set_option maxHeartbeats 4000000 in
set_option maxRecDepth 100000 in
theorem lc_weed {Rel : z_M → z_M → Prop} (hp : p_weed Rel) {X : z_Ct} {a2 : Nat → Nat} {b L : Nat} {xs : Nat → Int32} (C : l_Cx X a2 b L xs) {i : Int32} (hi0 : vp_in i L) (hi1 : vp_in (i + 1) L) (hi2 : vp_in (i + 2) L) (hi3 : vp_in (i + 3) L) (hi4 : vp_in (i + 4) L) (hi5 : vp_in (i + 5) L) {σ τ : z_M} (hrel : Rel σ τ) (kk : ∀ σ τ : z_M, Rel σ τ → l_W X a2 1184 [some (.ref b), some (.ref (z_a X 0)), some (.ref (a2 0)), some (.int i)] [] σ τ) : l_W X a2 522 [some (.ref b), some (.ref (z_a X 0)), some (.ref (a2 0)), some (.int i)] [] σ τ := by
  obtain ⟨r, σ1, τ1, m1, m2, hrel1⟩ := hp (xs (i + 1).toNatClampNeg) σ τ hrel
  refine l_aload_n C dL_law_522 rfl rfl ?_
  refine l_aload_n C dL_law_523 rfl rfl ?_
  refine l_iload_n C dL_law_524 rfl rfl ?_
  refine l_iconst (v := 1) C dL_law_525 (by decide) ?_
  refine l_iadd C dL_law_526 ?_
  refine l_sld C hi1 dL_law_527 ?_
  refine l_c1 (As := [.int (xs (i + 1).toNatClampNeg)]) (st := []) C (t11_weed (xs (i + 1).toNatClampNeg) m1) kvX11_weed rfl mlL_60 rfl (by decide) rfl (Nat.le_of_ble_eq_true rfl) dL_law_528 ?_
  refine l_aload_n C dL_law_531 rfl rfl ?_
  refine l_aload_n C dL_law_532 rfl rfl ?_
  refine l_iload_n C dL_law_533 rfl rfl ?_
  refine l_iconst (v := 1) C dL_law_534 (by decide) ?_
  refine l_iadd C dL_law_535 ?_
  refine l_sld C hi1 dL_law_536 ?_
  refine l_c2 (As := [.int (xs (i + 1).toNatClampNeg)]) (st := [.int r]) C (t12_weed (xs (i + 1).toNatClampNeg) m2) kvX12_weed rfl mlL_63 rfl (by decide) rfl (Nat.le_of_ble_eq_true rfl) dL_law_537 ?_
  refine l_icmp_eq (tgt := 1184) C dL_law_540 (by decide) ?_
  exact kk σ1 τ1 hrel1
set_option maxHeartbeats 4000000 in
set_option maxRecDepth 100000 in
theorem lc_tell {Rel : z_M → z_M → Prop} (hp : p_tell Rel) {X : z_Ct} {a2 : Nat → Nat} {b L : Nat} {xs : Nat → Int32} (C : l_Cx X a2 b L xs) {i : Int32} (hi0 : vp_in i L) (hi1 : vp_in (i + 1) L) (hi2 : vp_in (i + 2) L) (hi3 : vp_in (i + 3) L) (hi4 : vp_in (i + 4) L) (hi5 : vp_in (i + 5) L) {σ τ : z_M} (hrel : Rel σ τ) (kk : ∀ σ τ : z_M, Rel σ τ → l_W X a2 1184 [some (.ref b), some (.ref (z_a X 0)), some (.ref (a2 0)), some (.int i)] [] σ τ) : l_W X a2 545 [some (.ref b), some (.ref (z_a X 0)), some (.ref (a2 0)), some (.int i)] [] σ τ := by
  obtain ⟨r, σ1, τ1, m1, m2, hrel1⟩ := hp (xs (i + 1).toNatClampNeg) (xs (i + 2).toNatClampNeg) (xs (i + 3).toNatClampNeg) σ τ hrel
  refine l_aload_n C dL_law_545 rfl rfl ?_
  refine l_aload_n C dL_law_546 rfl rfl ?_
  refine l_iload_n C dL_law_547 rfl rfl ?_
  refine l_iconst (v := 1) C dL_law_548 (by decide) ?_
  refine l_iadd C dL_law_549 ?_
  refine l_sld C hi1 dL_law_550 ?_
  refine l_aload_n C dL_law_551 rfl rfl ?_
  refine l_iload_n C dL_law_552 rfl rfl ?_
  refine l_iconst (v := 2) C dL_law_553 (by decide) ?_
  refine l_iadd C dL_law_554 ?_
  refine l_sld C hi2 dL_law_555 ?_
  refine l_aload_n C dL_law_556 rfl rfl ?_
  refine l_iload_n C dL_law_557 rfl rfl ?_
  refine l_iconst (v := 3) C dL_law_558 (by decide) ?_
  refine l_iadd C dL_law_559 ?_
  refine l_sld C hi3 dL_law_560 ?_
  refine l_c1 (As := [.int (xs (i + 1).toNatClampNeg), .int (xs (i + 2).toNatClampNeg), .int (xs (i + 3).toNatClampNeg)]) (st := []) C (t11_tell (xs (i + 1).toNatClampNeg) (xs (i + 2).toNatClampNeg) (xs (i + 3).toNatClampNeg) m1) kvX11_tell rfl mlL_64 rfl (by decide) rfl (Nat.le_of_ble_eq_true rfl) dL_law_561 ?_
  refine l_aload_n C dL_law_564 rfl rfl ?_
  refine l_aload_n C dL_law_565 rfl rfl ?_
  refine l_iload_n C dL_law_566 rfl rfl ?_
  refine l_iconst (v := 1) C dL_law_567 (by decide) ?_
  refine l_iadd C dL_law_568 ?_
  refine l_sld C hi1 dL_law_569 ?_
  refine l_aload_n C dL_law_570 rfl rfl ?_
  refine l_iload_n C dL_law_571 rfl rfl ?_
  refine l_iconst (v := 2) C dL_law_572 (by decide) ?_
  refine l_iadd C dL_law_573 ?_
  refine l_sld C hi2 dL_law_574 ?_
  refine l_aload_n C dL_law_575 rfl rfl ?_
  refine l_iload_n C dL_law_576 rfl rfl ?_
  refine l_iconst (v := 3) C dL_law_577 (by decide) ?_
  refine l_iadd C dL_law_578 ?_
  refine l_sld C hi3 dL_law_579 ?_
  refine l_c2 (As := [.int (xs (i + 1).toNatClampNeg), .int (xs (i + 2).toNatClampNeg), .int (xs (i + 3).toNatClampNeg)]) (st := [.int r]) C (t12_tell (xs (i + 1).toNatClampNeg) (xs (i + 2).toNatClampNeg) (xs (i + 3).toNatClampNeg) m2) kvX12_tell rfl mlL_67 rfl (by decide) rfl (Nat.le_of_ble_eq_true rfl) dL_law_580 ?_
  refine l_icmp_eq (tgt := 1184) C dL_law_583 (by decide) ?_
  exact kk σ1 τ1 hrel1
set_option maxHeartbeats 4000000 in
set_option maxRecDepth 100000 in
theorem lc_weeks {Rel : z_M → z_M → Prop} (hp : p_weeks Rel) {X : z_Ct} {a2 : Nat → Nat} {b L : Nat} {xs : Nat → Int32} (C : l_Cx X a2 b L xs) {i : Int32} (hi0 : vp_in i L) (hi1 : vp_in (i + 1) L) (hi2 : vp_in (i + 2) L) (hi3 : vp_in (i + 3) L) (hi4 : vp_in (i + 4) L) (hi5 : vp_in (i + 5) L) {σ τ : z_M} (hrel : Rel σ τ) (kk : ∀ σ τ : z_M, Rel σ τ → l_W X a2 1184 [some (.ref b), some (.ref (z_a X 0)), some (.ref (a2 0)), some (.int i)] [] σ τ) : l_W X a2 588 [some (.ref b), some (.ref (z_a X 0)), some (.ref (a2 0)), some (.int i)] [] σ τ := by
  obtain ⟨r, σ1, τ1, m1, m2, hrel1⟩ := hp (xs (i + 1).toNatClampNeg) σ τ hrel
  refine l_aload_n C dL_law_588 rfl rfl ?_
  refine l_aload_n C dL_law_589 rfl rfl ?_
  refine l_iload_n C dL_law_590 rfl rfl ?_
  refine l_iconst (v := 1) C dL_law_591 (by decide) ?_
  refine l_iadd C dL_law_592 ?_
  refine l_sld C hi1 dL_law_593 ?_
  refine l_c1 (As := [.int (xs (i + 1).toNatClampNeg)]) (st := []) C (t11_weeks (xs (i + 1).toNatClampNeg) m1) kvX11_weeks rfl mlL_68 rfl (by decide) rfl (Nat.le_of_ble_eq_true rfl) dL_law_594 ?_
  refine l_aload_n C dL_law_597 rfl rfl ?_
  refine l_aload_n C dL_law_598 rfl rfl ?_
  refine l_iload_n C dL_law_599 rfl rfl ?_
  refine l_iconst (v := 1) C dL_law_600 (by decide) ?_
  refine l_iadd C dL_law_601 ?_
  refine l_sld C hi1 dL_law_602 ?_
  refine l_c2 (As := [.int (xs (i + 1).toNatClampNeg)]) (st := [.int r]) C (t12_weeks (xs (i + 1).toNatClampNeg) m2) kvX12_weeks rfl mlL_71 rfl (by decide) rfl (Nat.le_of_ble_eq_true rfl) dL_law_603 ?_
  refine l_icmp_eq (tgt := 1184) C dL_law_606 (by decide) ?_
  exact kk σ1 τ1 hrel1
set_option maxHeartbeats 4000000 in
set_option maxRecDepth 100000 in
theorem lc_of {Rel : z_M → z_M → Prop} (hp : p_of Rel) {X : z_Ct} {a2 : Nat → Nat} {b L : Nat} {xs : Nat → Int32} (C : l_Cx X a2 b L xs) {i : Int32} (hi0 : vp_in i L) (hi1 : vp_in (i + 1) L) (hi2 : vp_in (i + 2) L) (hi3 : vp_in (i + 3) L) (hi4 : vp_in (i + 4) L) (hi5 : vp_in (i + 5) L) {σ τ : z_M} (hrel : Rel σ τ) (kk : ∀ σ τ : z_M, Rel σ τ → l_W X a2 1184 [some (.ref b), some (.ref (z_a X 0)), some (.ref (a2 0)), some (.int i)] [] σ τ) : l_W X a2 611 [some (.ref b), some (.ref (z_a X 0)), some (.ref (a2 0)), some (.int i)] [] σ τ := by
  obtain ⟨r, σ1, τ1, m1, m2, hrel1⟩ := hp (xs (i + 1).toNatClampNeg) (xs (i + 2).toNatClampNeg) σ τ hrel
  refine l_aload_n C dL_law_611 rfl rfl ?_
  refine l_aload_n C dL_law_612 rfl rfl ?_
  refine l_iload_n C dL_law_613 rfl rfl ?_
  refine l_iconst (v := 1) C dL_law_614 (by decide) ?_
  refine l_iadd C dL_law_615 ?_
  refine l_sld C hi1 dL_law_616 ?_
  refine l_aload_n C dL_law_617 rfl rfl ?_
  refine l_iload_n C dL_law_618 rfl rfl ?_
  refine l_iconst (v := 2) C dL_law_619 (by decide) ?_
  refine l_iadd C dL_law_620 ?_
  refine l_sld C hi2 dL_law_621 ?_
  refine l_c1 (As := [.int (xs (i + 1).toNatClampNeg), .int (xs (i + 2).toNatClampNeg)]) (st := []) C (t11_of (xs (i + 1).toNatClampNeg) (xs (i + 2).toNatClampNeg) m1) kvX11_of rfl mlL_72 rfl (by decide) rfl (Nat.le_of_ble_eq_true rfl) dL_law_622 ?_
  refine l_aload_n C dL_law_625 rfl rfl ?_
  refine l_aload_n C dL_law_626 rfl rfl ?_
  refine l_iload_n C dL_law_627 rfl rfl ?_
  refine l_iconst (v := 1) C dL_law_628 (by decide) ?_
  refine l_iadd C dL_law_629 ?_
  refine l_sld C hi1 dL_law_630 ?_
  refine l_aload_n C dL_law_631 rfl rfl ?_
  refine l_iload_n C dL_law_632 rfl rfl ?_
  refine l_iconst (v := 2) C dL_law_633 (by decide) ?_
  refine l_iadd C dL_law_634 ?_
  refine l_sld C hi2 dL_law_635 ?_
  refine l_c2 (As := [.int (xs (i + 1).toNatClampNeg), .int (xs (i + 2).toNatClampNeg)]) (st := [.int r]) C (t12_of (xs (i + 1).toNatClampNeg) (xs (i + 2).toNatClampNeg) m2) kvX12_of rfl mlL_76 rfl (by decide) rfl (Nat.le_of_ble_eq_true rfl) dL_law_636 ?_
  refine l_icmp_eq (tgt := 1184) C dL_law_639 (by decide) ?_
  exact kk σ1 τ1 hrel1
set_option maxHeartbeats 4000000 in
set_option maxRecDepth 100000 in
theorem lc_reason {Rel : z_M → z_M → Prop} (hp : p_reason Rel) {X : z_Ct} {a2 : Nat → Nat} {b L : Nat} {xs : Nat → Int32} (C : l_Cx X a2 b L xs) {i : Int32} (hi0 : vp_in i L) (hi1 : vp_in (i + 1) L) (hi2 : vp_in (i + 2) L) (hi3 : vp_in (i + 3) L) (hi4 : vp_in (i + 4) L) (hi5 : vp_in (i + 5) L) {σ τ : z_M} (hrel : Rel σ τ) (kk : ∀ σ τ : z_M, Rel σ τ → l_W X a2 1184 [some (.ref b), some (.ref (z_a X 0)), some (.ref (a2 0)), some (.int i)] [] σ τ) : l_W X a2 644 [some (.ref b), some (.ref (z_a X 0)), some (.ref (a2 0)), some (.int i)] [] σ τ := by
  obtain ⟨r, σ1, τ1, m1, m2, hrel1⟩ := hp (xs (i + 1).toNatClampNeg) (xs (i + 2).toNatClampNeg) σ τ hrel
  refine l_aload_n C dL_law_644 rfl rfl ?_
  refine l_aload_n C dL_law_645 rfl rfl ?_
  refine l_iload_n C dL_law_646 rfl rfl ?_
  refine l_iconst (v := 1) C dL_law_647 (by decide) ?_
  refine l_iadd C dL_law_648 ?_
  refine l_sld C hi1 dL_law_649 ?_
  refine l_aload_n C dL_law_650 rfl rfl ?_
  refine l_iload_n C dL_law_651 rfl rfl ?_
  refine l_iconst (v := 2) C dL_law_652 (by decide) ?_
  refine l_iadd C dL_law_653 ?_
  refine l_sld C hi2 dL_law_654 ?_
  refine l_c1 (As := [.int (xs (i + 1).toNatClampNeg), .int (xs (i + 2).toNatClampNeg)]) (st := []) C (t11_reason (xs (i + 1).toNatClampNeg) (xs (i + 2).toNatClampNeg) m1) kvX11_reason rfl mlL_77 rfl (by decide) rfl (Nat.le_of_ble_eq_true rfl) dL_law_655 ?_
  refine l_aload_n C dL_law_658 rfl rfl ?_
  refine l_aload_n C dL_law_659 rfl rfl ?_
  refine l_iload_n C dL_law_660 rfl rfl ?_
  refine l_iconst (v := 1) C dL_law_661 (by decide) ?_
  refine l_iadd C dL_law_662 ?_
  refine l_sld C hi1 dL_law_663 ?_
  refine l_aload_n C dL_law_664 rfl rfl ?_
  refine l_iload_n C dL_law_665 rfl rfl ?_
  refine l_iconst (v := 2) C dL_law_666 (by decide) ?_
  refine l_iadd C dL_law_667 ?_
  refine l_sld C hi2 dL_law_668 ?_
  refine l_c2 (As := [.int (xs (i + 1).toNatClampNeg), .int (xs (i + 2).toNatClampNeg)]) (st := [.int r]) C (t12_reason (xs (i + 1).toNatClampNeg) (xs (i + 2).toNatClampNeg) m2) kvX12_reason rfl mlL_80 rfl (by decide) rfl (Nat.le_of_ble_eq_true rfl) dL_law_669 ?_
  refine l_icmp_eq (tgt := 1184) C dL_law_672 (by decide) ?_
  exact kk σ1 τ1 hrel1
set_option maxHeartbeats 4000000 in
set_option maxRecDepth 100000 in
theorem lc_book {Rel : z_M → z_M → Prop} (hp : p_book Rel) {X : z_Ct} {a2 : Nat → Nat} {b L : Nat} {xs : Nat → Int32} (C : l_Cx X a2 b L xs) {i : Int32} (hi0 : vp_in i L) (hi1 : vp_in (i + 1) L) (hi2 : vp_in (i + 2) L) (hi3 : vp_in (i + 3) L) (hi4 : vp_in (i + 4) L) (hi5 : vp_in (i + 5) L) {σ τ : z_M} (hrel : Rel σ τ) (kk : ∀ σ τ : z_M, Rel σ τ → l_W X a2 1184 [some (.ref b), some (.ref (z_a X 0)), some (.ref (a2 0)), some (.int i)] [] σ τ) : l_W X a2 677 [some (.ref b), some (.ref (z_a X 0)), some (.ref (a2 0)), some (.int i)] [] σ τ := by
  obtain ⟨r, σ1, τ1, m1, m2, hrel1⟩ := hp (xs (i + 1).toNatClampNeg) (xs (i + 2).toNatClampNeg) σ τ hrel
  refine l_aload_n C dL_law_677 rfl rfl ?_
  refine l_aload_n C dL_law_678 rfl rfl ?_
  refine l_iload_n C dL_law_679 rfl rfl ?_
  refine l_iconst (v := 1) C dL_law_680 (by decide) ?_
  refine l_iadd C dL_law_681 ?_
  refine l_sld C hi1 dL_law_682 ?_
  refine l_aload_n C dL_law_683 rfl rfl ?_
  refine l_iload_n C dL_law_684 rfl rfl ?_
  refine l_iconst (v := 2) C dL_law_685 (by decide) ?_
  refine l_iadd C dL_law_686 ?_
  refine l_sld C hi2 dL_law_687 ?_
  refine l_c1 (As := [.int (xs (i + 1).toNatClampNeg), .int (xs (i + 2).toNatClampNeg)]) (st := []) C (t11_book (xs (i + 1).toNatClampNeg) (xs (i + 2).toNatClampNeg) m1) kvX11_book rfl mlL_81 rfl (by decide) rfl (Nat.le_of_ble_eq_true rfl) dL_law_688 ?_
  refine l_aload_n C dL_law_691 rfl rfl ?_
  refine l_aload_n C dL_law_692 rfl rfl ?_
  refine l_iload_n C dL_law_693 rfl rfl ?_
  refine l_iconst (v := 1) C dL_law_694 (by decide) ?_
  refine l_iadd C dL_law_695 ?_
  refine l_sld C hi1 dL_law_696 ?_
  refine l_aload_n C dL_law_697 rfl rfl ?_
  refine l_iload_n C dL_law_698 rfl rfl ?_
  refine l_iconst (v := 2) C dL_law_699 (by decide) ?_
  refine l_iadd C dL_law_700 ?_
  refine l_sld C hi2 dL_law_701 ?_
  refine l_c2 (As := [.int (xs (i + 1).toNatClampNeg), .int (xs (i + 2).toNatClampNeg)]) (st := [.int r]) C (t12_book (xs (i + 1).toNatClampNeg) (xs (i + 2).toNatClampNeg) m2) kvX12_book rfl mlL_84 rfl (by decide) rfl (Nat.le_of_ble_eq_true rfl) dL_law_702 ?_
  refine l_icmp_eq (tgt := 1184) C dL_law_705 (by decide) ?_
  exact kk σ1 τ1 hrel1
set_option maxHeartbeats 4000000 in
set_option maxRecDepth 100000 in
theorem lc_first {Rel : z_M → z_M → Prop} (hp : p_first Rel) {X : z_Ct} {a2 : Nat → Nat} {b L : Nat} {xs : Nat → Int32} (C : l_Cx X a2 b L xs) {i : Int32} (hi0 : vp_in i L) (hi1 : vp_in (i + 1) L) (hi2 : vp_in (i + 2) L) (hi3 : vp_in (i + 3) L) (hi4 : vp_in (i + 4) L) (hi5 : vp_in (i + 5) L) {σ τ : z_M} (hrel : Rel σ τ) (kk : ∀ σ τ : z_M, Rel σ τ → l_W X a2 1184 [some (.ref b), some (.ref (z_a X 0)), some (.ref (a2 0)), some (.int i)] [] σ τ) : l_W X a2 710 [some (.ref b), some (.ref (z_a X 0)), some (.ref (a2 0)), some (.int i)] [] σ τ := by
  obtain ⟨r, σ1, τ1, m1, m2, hrel1⟩ := hp (xs (i + 1).toNatClampNeg) (xs (i + 2).toNatClampNeg) σ τ hrel
  refine l_aload_n C dL_law_710 rfl rfl ?_
  refine l_aload_n C dL_law_711 rfl rfl ?_
  refine l_iload_n C dL_law_712 rfl rfl ?_
  refine l_iconst (v := 1) C dL_law_713 (by decide) ?_
  refine l_iadd C dL_law_714 ?_
  refine l_sld C hi1 dL_law_715 ?_
  refine l_aload_n C dL_law_716 rfl rfl ?_
  refine l_iload_n C dL_law_717 rfl rfl ?_
  refine l_iconst (v := 2) C dL_law_718 (by decide) ?_
  refine l_iadd C dL_law_719 ?_
  refine l_sld C hi2 dL_law_720 ?_
  refine l_c1 (As := [.int (xs (i + 1).toNatClampNeg), .int (xs (i + 2).toNatClampNeg)]) (st := []) C (t11_first (xs (i + 1).toNatClampNeg) (xs (i + 2).toNatClampNeg) m1) kvX11_first rfl mlL_85 rfl (by decide) rfl (Nat.le_of_ble_eq_true rfl) dL_law_721 ?_
  refine l_aload_n C dL_law_724 rfl rfl ?_
  refine l_aload_n C dL_law_725 rfl rfl ?_
  refine l_iload_n C dL_law_726 rfl rfl ?_
  refine l_iconst (v := 1) C dL_law_727 (by decide) ?_
  refine l_iadd C dL_law_728 ?_
  refine l_sld C hi1 dL_law_729 ?_
  refine l_aload_n C dL_law_730 rfl rfl ?_
  refine l_iload_n C dL_law_731 rfl rfl ?_
  refine l_iconst (v := 2) C dL_law_732 (by decide) ?_
  refine l_iadd C dL_law_733 ?_
  refine l_sld C hi2 dL_law_734 ?_
  refine l_c2 (As := [.int (xs (i + 1).toNatClampNeg), .int (xs (i + 2).toNatClampNeg)]) (st := [.int r]) C (t12_first (xs (i + 1).toNatClampNeg) (xs (i + 2).toNatClampNeg) m2) kvX12_first rfl mlL_88 rfl (by decide) rfl (Nat.le_of_ble_eq_true rfl) dL_law_735 ?_
  refine l_icmp_eq (tgt := 1184) C dL_law_738 (by decide) ?_
  exact kk σ1 τ1 hrel1
set_option maxHeartbeats 4000000 in
set_option maxRecDepth 100000 in
theorem lc_gives {Rel : z_M → z_M → Prop} (hp : p_gives Rel) {X : z_Ct} {a2 : Nat → Nat} {b L : Nat} {xs : Nat → Int32} (C : l_Cx X a2 b L xs) {i : Int32} (hi0 : vp_in i L) (hi1 : vp_in (i + 1) L) (hi2 : vp_in (i + 2) L) (hi3 : vp_in (i + 3) L) (hi4 : vp_in (i + 4) L) (hi5 : vp_in (i + 5) L) {σ τ : z_M} (hrel : Rel σ τ) (kk : ∀ σ τ : z_M, Rel σ τ → l_W X a2 1184 [some (.ref b), some (.ref (z_a X 0)), some (.ref (a2 0)), some (.int i)] [] σ τ) : l_W X a2 743 [some (.ref b), some (.ref (z_a X 0)), some (.ref (a2 0)), some (.int i)] [] σ τ := by
  obtain ⟨r, σ1, τ1, m1, m2, hrel1⟩ := hp (xs (i + 1).toNatClampNeg) σ τ hrel
  refine l_aload_n C dL_law_743 rfl rfl ?_
  refine l_aload_n C dL_law_744 rfl rfl ?_
  refine l_iload_n C dL_law_745 rfl rfl ?_
  refine l_iconst (v := 1) C dL_law_746 (by decide) ?_
  refine l_iadd C dL_law_747 ?_
  refine l_sld C hi1 dL_law_748 ?_
  refine l_c1 (As := [.int (xs (i + 1).toNatClampNeg)]) (st := []) C (t11_gives (xs (i + 1).toNatClampNeg) m1) kvX11_gives rfl mlL_89 rfl (by decide) rfl (Nat.le_of_ble_eq_true rfl) dL_law_749 ?_
  refine l_aload_n C dL_law_752 rfl rfl ?_
  refine l_aload_n C dL_law_753 rfl rfl ?_
  refine l_iload_n C dL_law_754 rfl rfl ?_
  refine l_iconst (v := 1) C dL_law_755 (by decide) ?_
  refine l_iadd C dL_law_756 ?_
  refine l_sld C hi1 dL_law_757 ?_
  refine l_c2 (As := [.int (xs (i + 1).toNatClampNeg)]) (st := [.int r]) C (t12_gives (xs (i + 1).toNatClampNeg) m2) kvX12_gives rfl mlL_92 rfl (by decide) rfl (Nat.le_of_ble_eq_true rfl) dL_law_758 ?_
  refine l_icmp_eq (tgt := 1184) C dL_law_761 (by decide) ?_
  exact kk σ1 τ1 hrel1
set_option maxHeartbeats 4000000 in
set_option maxRecDepth 100000 in
theorem lc_done {Rel : z_M → z_M → Prop} (hp : p_done Rel) {X : z_Ct} {a2 : Nat → Nat} {b L : Nat} {xs : Nat → Int32} (C : l_Cx X a2 b L xs) {i : Int32} (hi0 : vp_in i L) (hi1 : vp_in (i + 1) L) (hi2 : vp_in (i + 2) L) (hi3 : vp_in (i + 3) L) (hi4 : vp_in (i + 4) L) (hi5 : vp_in (i + 5) L) {σ τ : z_M} (hrel : Rel σ τ) (kk : ∀ σ τ : z_M, Rel σ τ → l_W X a2 1184 [some (.ref b), some (.ref (z_a X 0)), some (.ref (a2 0)), some (.int i)] [] σ τ) : l_W X a2 766 [some (.ref b), some (.ref (z_a X 0)), some (.ref (a2 0)), some (.int i)] [] σ τ := by
  obtain ⟨r, σ1, τ1, m1, m2, hrel1⟩ := hp σ τ hrel
  refine l_aload_n C dL_law_766 rfl rfl ?_
  refine l_c1 (As := []) (st := []) C (t11_done m1) kvX11_done rfl mlL_93 rfl (by decide) rfl (Nat.le_of_ble_eq_true rfl) dL_law_767 ?_
  refine l_aload_n C dL_law_770 rfl rfl ?_
  refine l_c2 (As := []) (st := [.int r]) C (t12_done m2) kvX12_done rfl mlL_96 rfl (by decide) rfl (Nat.le_of_ble_eq_true rfl) dL_law_771 ?_
  refine l_icmp_eq (tgt := 1184) C dL_law_774 (by decide) ?_
  exact kk σ1 τ1 hrel1
set_option maxHeartbeats 4000000 in
set_option maxRecDepth 100000 in
theorem lc_struck {Rel : z_M → z_M → Prop} (hp : p_struck Rel) {X : z_Ct} {a2 : Nat → Nat} {b L : Nat} {xs : Nat → Int32} (C : l_Cx X a2 b L xs) {i : Int32} (hi0 : vp_in i L) (hi1 : vp_in (i + 1) L) (hi2 : vp_in (i + 2) L) (hi3 : vp_in (i + 3) L) (hi4 : vp_in (i + 4) L) (hi5 : vp_in (i + 5) L) {σ τ : z_M} (hrel : Rel σ τ) (kk : ∀ σ τ : z_M, Rel σ τ → l_W X a2 1184 [some (.ref b), some (.ref (z_a X 0)), some (.ref (a2 0)), some (.int i)] [] σ τ) : l_W X a2 779 [some (.ref b), some (.ref (z_a X 0)), some (.ref (a2 0)), some (.int i)] [] σ τ := by
  obtain ⟨r, σ1, τ1, m1, m2, hrel1⟩ := hp (xs (i + 1).toNatClampNeg) (xs (i + 2).toNatClampNeg) σ τ hrel
  refine l_aload_n C dL_law_779 rfl rfl ?_
  refine l_aload_n C dL_law_780 rfl rfl ?_
  refine l_iload_n C dL_law_781 rfl rfl ?_
  refine l_iconst (v := 1) C dL_law_782 (by decide) ?_
  refine l_iadd C dL_law_783 ?_
  refine l_sld C hi1 dL_law_784 ?_
  refine l_aload_n C dL_law_785 rfl rfl ?_
  refine l_iload_n C dL_law_786 rfl rfl ?_
  refine l_iconst (v := 2) C dL_law_787 (by decide) ?_
  refine l_iadd C dL_law_788 ?_
  refine l_sld C hi2 dL_law_789 ?_
  refine l_c1 (As := [.int (xs (i + 1).toNatClampNeg), .int (xs (i + 2).toNatClampNeg)]) (st := []) C (t11_struck (xs (i + 1).toNatClampNeg) (xs (i + 2).toNatClampNeg) m1) kvX11_struck rfl mlL_97 rfl (by decide) rfl (Nat.le_of_ble_eq_true rfl) dL_law_790 ?_
  refine l_aload_n C dL_law_793 rfl rfl ?_
  refine l_aload_n C dL_law_794 rfl rfl ?_
  refine l_iload_n C dL_law_795 rfl rfl ?_
  refine l_iconst (v := 1) C dL_law_796 (by decide) ?_
  refine l_iadd C dL_law_797 ?_
  refine l_sld C hi1 dL_law_798 ?_
  refine l_aload_n C dL_law_799 rfl rfl ?_
  refine l_iload_n C dL_law_800 rfl rfl ?_
  refine l_iconst (v := 2) C dL_law_801 (by decide) ?_
  refine l_iadd C dL_law_802 ?_
  refine l_sld C hi2 dL_law_803 ?_
  refine l_c2 (As := [.int (xs (i + 1).toNatClampNeg), .int (xs (i + 2).toNatClampNeg)]) (st := [.int r]) C (t12_struck (xs (i + 1).toNatClampNeg) (xs (i + 2).toNatClampNeg) m2) kvX12_struck rfl mlL_100 rfl (by decide) rfl (Nat.le_of_ble_eq_true rfl) dL_law_804 ?_
  refine l_icmp_eq (tgt := 1184) C dL_law_807 (by decide) ?_
  exact kk σ1 τ1 hrel1
set_option maxHeartbeats 4000000 in
set_option maxRecDepth 100000 in
theorem lc_down {Rel : z_M → z_M → Prop} (hp : p_down Rel) {X : z_Ct} {a2 : Nat → Nat} {b L : Nat} {xs : Nat → Int32} (C : l_Cx X a2 b L xs) {i : Int32} (hi0 : vp_in i L) (hi1 : vp_in (i + 1) L) (hi2 : vp_in (i + 2) L) (hi3 : vp_in (i + 3) L) (hi4 : vp_in (i + 4) L) (hi5 : vp_in (i + 5) L) {σ τ : z_M} (hrel : Rel σ τ) (kk : ∀ σ τ : z_M, Rel σ τ → l_W X a2 1184 [some (.ref b), some (.ref (z_a X 0)), some (.ref (a2 0)), some (.int i)] [] σ τ) : l_W X a2 812 [some (.ref b), some (.ref (z_a X 0)), some (.ref (a2 0)), some (.int i)] [] σ τ := by
  obtain ⟨r, σ1, τ1, m1, m2, hrel1⟩ := hp (xs (i + 1).toNatClampNeg) (xs (i + 2).toNatClampNeg) σ τ hrel
  refine l_aload_n C dL_law_812 rfl rfl ?_
  refine l_aload_n C dL_law_813 rfl rfl ?_
  refine l_iload_n C dL_law_814 rfl rfl ?_
  refine l_iconst (v := 1) C dL_law_815 (by decide) ?_
  refine l_iadd C dL_law_816 ?_
  refine l_sld C hi1 dL_law_817 ?_
  refine l_aload_n C dL_law_818 rfl rfl ?_
  refine l_iload_n C dL_law_819 rfl rfl ?_
  refine l_iconst (v := 2) C dL_law_820 (by decide) ?_
  refine l_iadd C dL_law_821 ?_
  refine l_sld C hi2 dL_law_822 ?_
  refine l_c1 (As := [.int (xs (i + 1).toNatClampNeg), .int (xs (i + 2).toNatClampNeg)]) (st := []) C (t11_down (xs (i + 1).toNatClampNeg) (xs (i + 2).toNatClampNeg) m1) kvX11_down rfl mlL_101 rfl (by decide) rfl (Nat.le_of_ble_eq_true rfl) dL_law_823 ?_
  refine l_aload_n C dL_law_826 rfl rfl ?_
  refine l_aload_n C dL_law_827 rfl rfl ?_
  refine l_iload_n C dL_law_828 rfl rfl ?_
  refine l_iconst (v := 1) C dL_law_829 (by decide) ?_
  refine l_iadd C dL_law_830 ?_
  refine l_sld C hi1 dL_law_831 ?_
  refine l_aload_n C dL_law_832 rfl rfl ?_
  refine l_iload_n C dL_law_833 rfl rfl ?_
  refine l_iconst (v := 2) C dL_law_834 (by decide) ?_
  refine l_iadd C dL_law_835 ?_
  refine l_sld C hi2 dL_law_836 ?_
  refine l_c2 (As := [.int (xs (i + 1).toNatClampNeg), .int (xs (i + 2).toNatClampNeg)]) (st := [.int r]) C (t12_down (xs (i + 1).toNatClampNeg) (xs (i + 2).toNatClampNeg) m2) kvX12_down rfl mlL_104 rfl (by decide) rfl (Nat.le_of_ble_eq_true rfl) dL_law_837 ?_
  refine l_icmp_eq (tgt := 1184) C dL_law_840 (by decide) ?_
  exact kk σ1 τ1 hrel1
set_option maxHeartbeats 4000000 in
set_option maxRecDepth 100000 in
theorem lc_by {Rel : z_M → z_M → Prop} (hp : p_by Rel) {X : z_Ct} {a2 : Nat → Nat} {b L : Nat} {xs : Nat → Int32} (C : l_Cx X a2 b L xs) {i : Int32} (hi0 : vp_in i L) (hi1 : vp_in (i + 1) L) (hi2 : vp_in (i + 2) L) (hi3 : vp_in (i + 3) L) (hi4 : vp_in (i + 4) L) (hi5 : vp_in (i + 5) L) {σ τ : z_M} (hrel : Rel σ τ) (kk : ∀ σ τ : z_M, Rel σ τ → l_W X a2 1184 [some (.ref b), some (.ref (z_a X 0)), some (.ref (a2 0)), some (.int i)] [] σ τ) : l_W X a2 845 [some (.ref b), some (.ref (z_a X 0)), some (.ref (a2 0)), some (.int i)] [] σ τ := by
  obtain ⟨r, σ1, τ1, m1, m2, hrel1⟩ := hp (xs (i + 1).toNatClampNeg) (xs (i + 2).toNatClampNeg) σ τ hrel
  refine l_aload_n C dL_law_845 rfl rfl ?_
  refine l_aload_n C dL_law_846 rfl rfl ?_
  refine l_iload_n C dL_law_847 rfl rfl ?_
  refine l_iconst (v := 1) C dL_law_848 (by decide) ?_
  refine l_iadd C dL_law_849 ?_
  refine l_sld C hi1 dL_law_850 ?_
  refine l_aload_n C dL_law_851 rfl rfl ?_
  refine l_iload_n C dL_law_852 rfl rfl ?_
  refine l_iconst (v := 2) C dL_law_853 (by decide) ?_
  refine l_iadd C dL_law_854 ?_
  refine l_sld C hi2 dL_law_855 ?_
  refine l_c1 (As := [.int (xs (i + 1).toNatClampNeg), .int (xs (i + 2).toNatClampNeg)]) (st := []) C (t11_by (xs (i + 1).toNatClampNeg) (xs (i + 2).toNatClampNeg) m1) kvX11_by rfl mlL_105 rfl (by decide) rfl (Nat.le_of_ble_eq_true rfl) dL_law_856 ?_
  refine l_aload_n C dL_law_859 rfl rfl ?_
  refine l_aload_n C dL_law_860 rfl rfl ?_
  refine l_iload_n C dL_law_861 rfl rfl ?_
  refine l_iconst (v := 1) C dL_law_862 (by decide) ?_
  refine l_iadd C dL_law_863 ?_
  refine l_sld C hi1 dL_law_864 ?_
  refine l_aload_n C dL_law_865 rfl rfl ?_
  refine l_iload_n C dL_law_866 rfl rfl ?_
  refine l_iconst (v := 2) C dL_law_867 (by decide) ?_
  refine l_iadd C dL_law_868 ?_
  refine l_sld C hi2 dL_law_869 ?_
  refine l_c2 (As := [.int (xs (i + 1).toNatClampNeg), .int (xs (i + 2).toNatClampNeg)]) (st := [.int r]) C (t12_by (xs (i + 1).toNatClampNeg) (xs (i + 2).toNatClampNeg) m2) kvX12_by rfl mlL_108 rfl (by decide) rfl (Nat.le_of_ble_eq_true rfl) dL_law_870 ?_
  refine l_icmp_eq (tgt := 1184) C dL_law_873 (by decide) ?_
  exact kk σ1 τ1 hrel1
set_option maxHeartbeats 4000000 in
set_option maxRecDepth 100000 in
theorem lc_part {Rel : z_M → z_M → Prop} (hp : p_part Rel) {X : z_Ct} {a2 : Nat → Nat} {b L : Nat} {xs : Nat → Int32} (C : l_Cx X a2 b L xs) {i : Int32} (hi0 : vp_in i L) (hi1 : vp_in (i + 1) L) (hi2 : vp_in (i + 2) L) (hi3 : vp_in (i + 3) L) (hi4 : vp_in (i + 4) L) (hi5 : vp_in (i + 5) L) {σ τ : z_M} (hrel : Rel σ τ) (kk : ∀ σ τ : z_M, Rel σ τ → l_W X a2 1184 [some (.ref b), some (.ref (z_a X 0)), some (.ref (a2 0)), some (.int i)] [] σ τ) : l_W X a2 878 [some (.ref b), some (.ref (z_a X 0)), some (.ref (a2 0)), some (.int i)] [] σ τ := by
  obtain ⟨r, σ1, τ1, m1, m2, hrel1⟩ := hp (xs (i + 1).toNatClampNeg) (xs (i + 2).toNatClampNeg) σ τ hrel
  refine l_aload_n C dL_law_878 rfl rfl ?_
  refine l_aload_n C dL_law_879 rfl rfl ?_
  refine l_iload_n C dL_law_880 rfl rfl ?_
  refine l_iconst (v := 1) C dL_law_881 (by decide) ?_
  refine l_iadd C dL_law_882 ?_
  refine l_sld C hi1 dL_law_883 ?_
  refine l_aload_n C dL_law_884 rfl rfl ?_
  refine l_iload_n C dL_law_885 rfl rfl ?_
  refine l_iconst (v := 2) C dL_law_886 (by decide) ?_
  refine l_iadd C dL_law_887 ?_
  refine l_sld C hi2 dL_law_888 ?_
  refine l_c1 (As := [.int (xs (i + 1).toNatClampNeg), .int (xs (i + 2).toNatClampNeg)]) (st := []) C (t11_part (xs (i + 1).toNatClampNeg) (xs (i + 2).toNatClampNeg) m1) kvX11_part rfl mlL_109 rfl (by decide) rfl (Nat.le_of_ble_eq_true rfl) dL_law_889 ?_
  refine l_aload_n C dL_law_892 rfl rfl ?_
  refine l_aload_n C dL_law_893 rfl rfl ?_
  refine l_iload_n C dL_law_894 rfl rfl ?_
  refine l_iconst (v := 1) C dL_law_895 (by decide) ?_
  refine l_iadd C dL_law_896 ?_
  refine l_sld C hi1 dL_law_897 ?_
  refine l_aload_n C dL_law_898 rfl rfl ?_
  refine l_iload_n C dL_law_899 rfl rfl ?_
  refine l_iconst (v := 2) C dL_law_900 (by decide) ?_
  refine l_iadd C dL_law_901 ?_
  refine l_sld C hi2 dL_law_902 ?_
  refine l_c2 (As := [.int (xs (i + 1).toNatClampNeg), .int (xs (i + 2).toNatClampNeg)]) (st := [.int r]) C (t12_part (xs (i + 1).toNatClampNeg) (xs (i + 2).toNatClampNeg) m2) kvX12_part rfl mlL_112 rfl (by decide) rfl (Nat.le_of_ble_eq_true rfl) dL_law_903 ?_
  refine l_icmp_eq (tgt := 1184) C dL_law_906 (by decide) ?_
  exact kk σ1 τ1 hrel1
set_option maxHeartbeats 4000000 in
set_option maxRecDepth 100000 in
theorem lc_talk {Rel : z_M → z_M → Prop} (hp : p_talk Rel) {X : z_Ct} {a2 : Nat → Nat} {b L : Nat} {xs : Nat → Int32} (C : l_Cx X a2 b L xs) {i : Int32} (hi0 : vp_in i L) (hi1 : vp_in (i + 1) L) (hi2 : vp_in (i + 2) L) (hi3 : vp_in (i + 3) L) (hi4 : vp_in (i + 4) L) (hi5 : vp_in (i + 5) L) {σ τ : z_M} (hrel : Rel σ τ) (kk : ∀ σ τ : z_M, Rel σ τ → l_W X a2 1184 [some (.ref b), some (.ref (z_a X 0)), some (.ref (a2 0)), some (.int i)] [] σ τ) : l_W X a2 911 [some (.ref b), some (.ref (z_a X 0)), some (.ref (a2 0)), some (.int i)] [] σ τ := by
  obtain ⟨r, σ1, τ1, m1, m2, hrel1⟩ := hp (xs (i + 1).toNatClampNeg) (xs (i + 2).toNatClampNeg) (xs (i + 3).toNatClampNeg) σ τ hrel
  refine l_aload_n C dL_law_911 rfl rfl ?_
  refine l_aload_n C dL_law_912 rfl rfl ?_
  refine l_iload_n C dL_law_913 rfl rfl ?_
  refine l_iconst (v := 1) C dL_law_914 (by decide) ?_
  refine l_iadd C dL_law_915 ?_
  refine l_sld C hi1 dL_law_916 ?_
  refine l_aload_n C dL_law_917 rfl rfl ?_
  refine l_iload_n C dL_law_918 rfl rfl ?_
  refine l_iconst (v := 2) C dL_law_919 (by decide) ?_
  refine l_iadd C dL_law_920 ?_
  refine l_sld C hi2 dL_law_921 ?_
  refine l_aload_n C dL_law_922 rfl rfl ?_
  refine l_iload_n C dL_law_923 rfl rfl ?_
  refine l_iconst (v := 3) C dL_law_924 (by decide) ?_
  refine l_iadd C dL_law_925 ?_
  refine l_sld C hi3 dL_law_926 ?_
  refine l_c1 (As := [.int (xs (i + 1).toNatClampNeg), .int (xs (i + 2).toNatClampNeg), .int (xs (i + 3).toNatClampNeg)]) (st := []) C (t11_talk (xs (i + 1).toNatClampNeg) (xs (i + 2).toNatClampNeg) (xs (i + 3).toNatClampNeg) m1) kvX11_talk rfl mlL_113 rfl (by decide) rfl (Nat.le_of_ble_eq_true rfl) dL_law_927 ?_
  refine l_aload_n C dL_law_930 rfl rfl ?_
  refine l_aload_n C dL_law_931 rfl rfl ?_
  refine l_iload_n C dL_law_932 rfl rfl ?_
  refine l_iconst (v := 1) C dL_law_933 (by decide) ?_
  refine l_iadd C dL_law_934 ?_
  refine l_sld C hi1 dL_law_935 ?_
  refine l_aload_n C dL_law_936 rfl rfl ?_
  refine l_iload_n C dL_law_937 rfl rfl ?_
  refine l_iconst (v := 2) C dL_law_938 (by decide) ?_
  refine l_iadd C dL_law_939 ?_
  refine l_sld C hi2 dL_law_940 ?_
  refine l_aload_n C dL_law_941 rfl rfl ?_
  refine l_iload_n C dL_law_942 rfl rfl ?_
  refine l_iconst (v := 3) C dL_law_943 (by decide) ?_
  refine l_iadd C dL_law_944 ?_
  refine l_sld C hi3 dL_law_945 ?_
  refine l_c2 (As := [.int (xs (i + 1).toNatClampNeg), .int (xs (i + 2).toNatClampNeg), .int (xs (i + 3).toNatClampNeg)]) (st := [.int r]) C (t12_talk (xs (i + 1).toNatClampNeg) (xs (i + 2).toNatClampNeg) (xs (i + 3).toNatClampNeg) m2) kvX12_talk rfl mlL_117 rfl (by decide) rfl (Nat.le_of_ble_eq_true rfl) dL_law_946 ?_
  refine l_icmp_eq (tgt := 1184) C dL_law_949 (by decide) ?_
  exact kk σ1 τ1 hrel1
set_option maxHeartbeats 4000000 in
set_option maxRecDepth 100000 in
theorem lc_fits {Rel : z_M → z_M → Prop} (hp : p_fits Rel) {X : z_Ct} {a2 : Nat → Nat} {b L : Nat} {xs : Nat → Int32} (C : l_Cx X a2 b L xs) {i : Int32} (hi0 : vp_in i L) (hi1 : vp_in (i + 1) L) (hi2 : vp_in (i + 2) L) (hi3 : vp_in (i + 3) L) (hi4 : vp_in (i + 4) L) (hi5 : vp_in (i + 5) L) {σ τ : z_M} (hrel : Rel σ τ) (kk : ∀ σ τ : z_M, Rel σ τ → l_W X a2 1184 [some (.ref b), some (.ref (z_a X 0)), some (.ref (a2 0)), some (.int i)] [] σ τ) : l_W X a2 954 [some (.ref b), some (.ref (z_a X 0)), some (.ref (a2 0)), some (.int i)] [] σ τ := by
  obtain ⟨r, σ1, τ1, m1, m2, hrel1⟩ := hp (xs (i + 1).toNatClampNeg) (xs (i + 2).toNatClampNeg) σ τ hrel
  refine l_aload_n C dL_law_954 rfl rfl ?_
  refine l_aload_n C dL_law_955 rfl rfl ?_
  refine l_iload_n C dL_law_956 rfl rfl ?_
  refine l_iconst (v := 1) C dL_law_957 (by decide) ?_
  refine l_iadd C dL_law_958 ?_
  refine l_sld C hi1 dL_law_959 ?_
  refine l_aload_n C dL_law_960 rfl rfl ?_
  refine l_iload_n C dL_law_961 rfl rfl ?_
  refine l_iconst (v := 2) C dL_law_962 (by decide) ?_
  refine l_iadd C dL_law_963 ?_
  refine l_sld C hi2 dL_law_964 ?_
  refine l_c1 (As := [.int (xs (i + 1).toNatClampNeg), .int (xs (i + 2).toNatClampNeg)]) (st := []) C (t11_fits (xs (i + 1).toNatClampNeg) (xs (i + 2).toNatClampNeg) m1) kvX11_fits rfl mlL_118 rfl (by decide) rfl (Nat.le_of_ble_eq_true rfl) dL_law_965 ?_
  refine l_aload_n C dL_law_968 rfl rfl ?_
  refine l_aload_n C dL_law_969 rfl rfl ?_
  refine l_iload_n C dL_law_970 rfl rfl ?_
  refine l_iconst (v := 1) C dL_law_971 (by decide) ?_
  refine l_iadd C dL_law_972 ?_
  refine l_sld C hi1 dL_law_973 ?_
  refine l_aload_n C dL_law_974 rfl rfl ?_
  refine l_iload_n C dL_law_975 rfl rfl ?_
  refine l_iconst (v := 2) C dL_law_976 (by decide) ?_
  refine l_iadd C dL_law_977 ?_
  refine l_sld C hi2 dL_law_978 ?_
  refine l_c2 (As := [.int (xs (i + 1).toNatClampNeg), .int (xs (i + 2).toNatClampNeg)]) (st := [.int r]) C (t12_fits (xs (i + 1).toNatClampNeg) (xs (i + 2).toNatClampNeg) m2) kvX12_fits rfl mlL_121 rfl (by decide) rfl (Nat.le_of_ble_eq_true rfl) dL_law_979 ?_
  refine l_icmp_eq (tgt := 1184) C dL_law_982 (by decide) ?_
  exact kk σ1 τ1 hrel1
set_option maxHeartbeats 4000000 in
set_option maxRecDepth 100000 in
theorem lc_ask {Rel : z_M → z_M → Prop} (hp : p_ask Rel) {X : z_Ct} {a2 : Nat → Nat} {b L : Nat} {xs : Nat → Int32} (C : l_Cx X a2 b L xs) {i : Int32} (hi0 : vp_in i L) (hi1 : vp_in (i + 1) L) (hi2 : vp_in (i + 2) L) (hi3 : vp_in (i + 3) L) (hi4 : vp_in (i + 4) L) (hi5 : vp_in (i + 5) L) {σ τ : z_M} (hrel : Rel σ τ) (kk : ∀ σ τ : z_M, Rel σ τ → l_W X a2 1184 [some (.ref b), some (.ref (z_a X 0)), some (.ref (a2 0)), some (.int i)] [] σ τ) : l_W X a2 987 [some (.ref b), some (.ref (z_a X 0)), some (.ref (a2 0)), some (.int i)] [] σ τ := by
  obtain ⟨r, σ1, τ1, m1, m2, hrel1⟩ := hp (xs (i + 1).toNatClampNeg) (xs (i + 2).toNatClampNeg) σ τ hrel
  refine l_aload_n C dL_law_987 rfl rfl ?_
  refine l_aload_n C dL_law_988 rfl rfl ?_
  refine l_iload_n C dL_law_989 rfl rfl ?_
  refine l_iconst (v := 1) C dL_law_990 (by decide) ?_
  refine l_iadd C dL_law_991 ?_
  refine l_sld C hi1 dL_law_992 ?_
  refine l_aload_n C dL_law_993 rfl rfl ?_
  refine l_iload_n C dL_law_994 rfl rfl ?_
  refine l_iconst (v := 2) C dL_law_995 (by decide) ?_
  refine l_iadd C dL_law_996 ?_
  refine l_sld C hi2 dL_law_997 ?_
  refine l_c1 (As := [.int (xs (i + 1).toNatClampNeg), .int (xs (i + 2).toNatClampNeg)]) (st := []) C (t11_ask (xs (i + 1).toNatClampNeg) (xs (i + 2).toNatClampNeg) m1) kvX11_ask rfl mlL_122 rfl (by decide) rfl (Nat.le_of_ble_eq_true rfl) dL_law_998 ?_
  refine l_aload_n C dL_law_1001 rfl rfl ?_
  refine l_aload_n C dL_law_1002 rfl rfl ?_
  refine l_iload_n C dL_law_1003 rfl rfl ?_
  refine l_iconst (v := 1) C dL_law_1004 (by decide) ?_
  refine l_iadd C dL_law_1005 ?_
  refine l_sld C hi1 dL_law_1006 ?_
  refine l_aload_n C dL_law_1007 rfl rfl ?_
  refine l_iload_n C dL_law_1008 rfl rfl ?_
  refine l_iconst (v := 2) C dL_law_1009 (by decide) ?_
  refine l_iadd C dL_law_1010 ?_
  refine l_sld C hi2 dL_law_1011 ?_
  refine l_c2 (As := [.int (xs (i + 1).toNatClampNeg), .int (xs (i + 2).toNatClampNeg)]) (st := [.int r]) C (t12_ask (xs (i + 1).toNatClampNeg) (xs (i + 2).toNatClampNeg) m2) kvX12_ask rfl mlL_125 rfl (by decide) rfl (Nat.le_of_ble_eq_true rfl) dL_law_1012 ?_
  refine l_icmp_eq (tgt := 1184) C dL_law_1015 (by decide) ?_
  exact kk σ1 τ1 hrel1
set_option maxHeartbeats 4000000 in
set_option maxRecDepth 100000 in
theorem lc_waters {Rel : z_M → z_M → Prop} (hp : p_waters Rel) {X : z_Ct} {a2 : Nat → Nat} {b L : Nat} {xs : Nat → Int32} (C : l_Cx X a2 b L xs) {i : Int32} (hi0 : vp_in i L) (hi1 : vp_in (i + 1) L) (hi2 : vp_in (i + 2) L) (hi3 : vp_in (i + 3) L) (hi4 : vp_in (i + 4) L) (hi5 : vp_in (i + 5) L) {σ τ : z_M} (hrel : Rel σ τ) (kk : ∀ σ τ : z_M, Rel σ τ → l_W X a2 1184 [some (.ref b), some (.ref (z_a X 0)), some (.ref (a2 0)), some (.int i)] [] σ τ) : l_W X a2 1020 [some (.ref b), some (.ref (z_a X 0)), some (.ref (a2 0)), some (.int i)] [] σ τ := by
  obtain ⟨r, σ1, τ1, m1, m2, hrel1⟩ := hp (xs (i + 1).toNatClampNeg) (xs (i + 2).toNatClampNeg) (xs (i + 3).toNatClampNeg) σ τ hrel
  refine l_aload_n C dL_law_1020 rfl rfl ?_
  refine l_aload_n C dL_law_1021 rfl rfl ?_
  refine l_iload_n C dL_law_1022 rfl rfl ?_
  refine l_iconst (v := 1) C dL_law_1023 (by decide) ?_
  refine l_iadd C dL_law_1024 ?_
  refine l_sld C hi1 dL_law_1025 ?_
  refine l_aload_n C dL_law_1026 rfl rfl ?_
  refine l_iload_n C dL_law_1027 rfl rfl ?_
  refine l_iconst (v := 2) C dL_law_1028 (by decide) ?_
  refine l_iadd C dL_law_1029 ?_
  refine l_sld C hi2 dL_law_1030 ?_
  refine l_aload_n C dL_law_1031 rfl rfl ?_
  refine l_iload_n C dL_law_1032 rfl rfl ?_
  refine l_iconst (v := 3) C dL_law_1033 (by decide) ?_
  refine l_iadd C dL_law_1034 ?_
  refine l_sld C hi3 dL_law_1035 ?_
  refine l_c1 (As := [.int (xs (i + 1).toNatClampNeg), .int (xs (i + 2).toNatClampNeg), .int (xs (i + 3).toNatClampNeg)]) (st := []) C (t11_waters (xs (i + 1).toNatClampNeg) (xs (i + 2).toNatClampNeg) (xs (i + 3).toNatClampNeg) m1) kvX11_waters rfl mlL_126 rfl (by decide) rfl (Nat.le_of_ble_eq_true rfl) dL_law_1036 ?_
  refine l_aload_n C dL_law_1039 rfl rfl ?_
  refine l_aload_n C dL_law_1040 rfl rfl ?_
  refine l_iload_n C dL_law_1041 rfl rfl ?_
  refine l_iconst (v := 1) C dL_law_1042 (by decide) ?_
  refine l_iadd C dL_law_1043 ?_
  refine l_sld C hi1 dL_law_1044 ?_
  refine l_aload_n C dL_law_1045 rfl rfl ?_
  refine l_iload_n C dL_law_1046 rfl rfl ?_
  refine l_iconst (v := 2) C dL_law_1047 (by decide) ?_
  refine l_iadd C dL_law_1048 ?_
  refine l_sld C hi2 dL_law_1049 ?_
  refine l_aload_n C dL_law_1050 rfl rfl ?_
  refine l_iload_n C dL_law_1051 rfl rfl ?_
  refine l_iconst (v := 3) C dL_law_1052 (by decide) ?_
  refine l_iadd C dL_law_1053 ?_
  refine l_sld C hi3 dL_law_1054 ?_
  refine l_c2 (As := [.int (xs (i + 1).toNatClampNeg), .int (xs (i + 2).toNatClampNeg), .int (xs (i + 3).toNatClampNeg)]) (st := [.int r]) C (t12_waters (xs (i + 1).toNatClampNeg) (xs (i + 2).toNatClampNeg) (xs (i + 3).toNatClampNeg) m2) kvX12_waters rfl mlL_129 rfl (by decide) rfl (Nat.le_of_ble_eq_true rfl) dL_law_1055 ?_
  refine l_icmp_eq (tgt := 1184) C dL_law_1058 (by decide) ?_
  exact kk σ1 τ1 hrel1
set_option maxHeartbeats 4000000 in
set_option maxRecDepth 100000 in
theorem lc_game {Rel : z_M → z_M → Prop} (hp : p_game Rel) {X : z_Ct} {a2 : Nat → Nat} {b L : Nat} {xs : Nat → Int32} (C : l_Cx X a2 b L xs) {i : Int32} (hi0 : vp_in i L) (hi1 : vp_in (i + 1) L) (hi2 : vp_in (i + 2) L) (hi3 : vp_in (i + 3) L) (hi4 : vp_in (i + 4) L) (hi5 : vp_in (i + 5) L) {σ τ : z_M} (hrel : Rel σ τ) (kk : ∀ σ τ : z_M, Rel σ τ → l_W X a2 1184 [some (.ref b), some (.ref (z_a X 0)), some (.ref (a2 0)), some (.int i)] [] σ τ) : l_W X a2 1063 [some (.ref b), some (.ref (z_a X 0)), some (.ref (a2 0)), some (.int i)] [] σ τ := by
  obtain ⟨r, σ1, τ1, m1, m2, hrel1⟩ := hp (xs (i + 1).toNatClampNeg) σ τ hrel
  refine l_aload_n C dL_law_1063 rfl rfl ?_
  refine l_aload_n C dL_law_1064 rfl rfl ?_
  refine l_iload_n C dL_law_1065 rfl rfl ?_
  refine l_iconst (v := 1) C dL_law_1066 (by decide) ?_
  refine l_iadd C dL_law_1067 ?_
  refine l_sld C hi1 dL_law_1068 ?_
  refine l_c1 (As := [.int (xs (i + 1).toNatClampNeg)]) (st := []) C (t11_game (xs (i + 1).toNatClampNeg) m1) kvX11_game rfl mlL_130 rfl (by decide) rfl (Nat.le_of_ble_eq_true rfl) dL_law_1069 ?_
  refine l_aload_n C dL_law_1072 rfl rfl ?_
  refine l_aload_n C dL_law_1073 rfl rfl ?_
  refine l_iload_n C dL_law_1074 rfl rfl ?_
  refine l_iconst (v := 1) C dL_law_1075 (by decide) ?_
  refine l_iadd C dL_law_1076 ?_
  refine l_sld C hi1 dL_law_1077 ?_
  refine l_c2 (As := [.int (xs (i + 1).toNatClampNeg)]) (st := [.int r]) C (t12_game (xs (i + 1).toNatClampNeg) m2) kvX12_game rfl mlL_133 rfl (by decide) rfl (Nat.le_of_ble_eq_true rfl) dL_law_1078 ?_
  refine l_icmp_eq (tgt := 1184) C dL_law_1081 (by decide) ?_
  exact kk σ1 τ1 hrel1
set_option maxHeartbeats 4000000 in
set_option maxRecDepth 100000 in
theorem lc_greenhouses {Rel : z_M → z_M → Prop} (hp : p_greenhouses Rel) {X : z_Ct} {a2 : Nat → Nat} {b L : Nat} {xs : Nat → Int32} (C : l_Cx X a2 b L xs) {i : Int32} (hi0 : vp_in i L) (hi1 : vp_in (i + 1) L) (hi2 : vp_in (i + 2) L) (hi3 : vp_in (i + 3) L) (hi4 : vp_in (i + 4) L) (hi5 : vp_in (i + 5) L) {σ τ : z_M} (hrel : Rel σ τ) (kk : ∀ σ τ : z_M, Rel σ τ → l_W X a2 1184 [some (.ref b), some (.ref (z_a X 0)), some (.ref (a2 0)), some (.int i)] [] σ τ) : l_W X a2 1086 [some (.ref b), some (.ref (z_a X 0)), some (.ref (a2 0)), some (.int i)] [] σ τ := by
  obtain ⟨r, σ1, τ1, m1, m2, hrel1⟩ := hp (xs (i + 1).toNatClampNeg) σ τ hrel
  refine l_aload_n C dL_law_1086 rfl rfl ?_
  refine l_aload_n C dL_law_1087 rfl rfl ?_
  refine l_iload_n C dL_law_1088 rfl rfl ?_
  refine l_iconst (v := 1) C dL_law_1089 (by decide) ?_
  refine l_iadd C dL_law_1090 ?_
  refine l_sld C hi1 dL_law_1091 ?_
  refine l_c1 (As := [.int (xs (i + 1).toNatClampNeg)]) (st := []) C (t11_greenhouses (xs (i + 1).toNatClampNeg) m1) kvX11_greenhouses rfl mlL_134 rfl (by decide) rfl (Nat.le_of_ble_eq_true rfl) dL_law_1092 ?_
  refine l_aload_n C dL_law_1095 rfl rfl ?_
  refine l_aload_n C dL_law_1096 rfl rfl ?_
  refine l_iload_n C dL_law_1097 rfl rfl ?_
  refine l_iconst (v := 1) C dL_law_1098 (by decide) ?_
  refine l_iadd C dL_law_1099 ?_
  refine l_sld C hi1 dL_law_1100 ?_
  refine l_c2 (As := [.int (xs (i + 1).toNatClampNeg)]) (st := [.int r]) C (t12_greenhouses (xs (i + 1).toNatClampNeg) m2) kvX12_greenhouses rfl mlL_137 rfl (by decide) rfl (Nat.le_of_ble_eq_true rfl) dL_law_1101 ?_
  refine l_icmp_eq (tgt := 1184) C dL_law_1104 (by decide) ?_
  exact kk σ1 τ1 hrel1
set_option maxHeartbeats 4000000 in
set_option maxRecDepth 100000 in
theorem lc_undo {Rel : z_M → z_M → Prop} (hp : p_undo Rel) {X : z_Ct} {a2 : Nat → Nat} {b L : Nat} {xs : Nat → Int32} (C : l_Cx X a2 b L xs) {i : Int32} (hi0 : vp_in i L) (hi1 : vp_in (i + 1) L) (hi2 : vp_in (i + 2) L) (hi3 : vp_in (i + 3) L) (hi4 : vp_in (i + 4) L) (hi5 : vp_in (i + 5) L) {σ τ : z_M} (hrel : Rel σ τ) (kk : ∀ σ τ : z_M, Rel σ τ → l_W X a2 1184 [some (.ref b), some (.ref (z_a X 0)), some (.ref (a2 0)), some (.int i)] [] σ τ) : l_W X a2 1109 [some (.ref b), some (.ref (z_a X 0)), some (.ref (a2 0)), some (.int i)] [] σ τ := by
  obtain ⟨r, σ1, τ1, m1, m2, hrel1⟩ := hp σ τ hrel
  refine l_aload_n C dL_law_1109 rfl rfl ?_
  refine l_c1 (As := []) (st := []) C (t11_undo m1) kvX11_undo rfl mlL_138 rfl (by decide) rfl (Nat.le_of_ble_eq_true rfl) dL_law_1110 ?_
  refine l_aload_n C dL_law_1113 rfl rfl ?_
  refine l_c2 (As := []) (st := [.int r]) C (t12_undo m2) kvX12_undo rfl mlL_142 rfl (by decide) rfl (Nat.le_of_ble_eq_true rfl) dL_law_1114 ?_
  refine l_icmp_eq (tgt := 1184) C dL_law_1117 (by decide) ?_
  exact kk σ1 τ1 hrel1
set_option maxHeartbeats 4000000 in
set_option maxRecDepth 100000 in
theorem lc_image {Rel : z_M → z_M → Prop} (hp : p_image Rel) {X : z_Ct} {a2 : Nat → Nat} {b L : Nat} {xs : Nat → Int32} (C : l_Cx X a2 b L xs) {i : Int32} (hi0 : vp_in i L) (hi1 : vp_in (i + 1) L) (hi2 : vp_in (i + 2) L) (hi3 : vp_in (i + 3) L) (hi4 : vp_in (i + 4) L) (hi5 : vp_in (i + 5) L) {σ τ : z_M} (hrel : Rel σ τ) (kk : ∀ σ τ : z_M, Rel σ τ → l_W X a2 1184 [some (.ref b), some (.ref (z_a X 0)), some (.ref (a2 0)), some (.int i)] [] σ τ) : l_W X a2 1122 [some (.ref b), some (.ref (z_a X 0)), some (.ref (a2 0)), some (.int i)] [] σ τ := by
  obtain ⟨r, σ1, τ1, m1, m2, hrel1⟩ := hp (if xs (i + 1).toNatClampNeg = 0 then 0 else 1) σ τ (by split <;> simp) hrel
  by_cases hz : xs (i + 1).toNatClampNeg = 0
  · rw [if_pos hz] at m1 m2
    refine l_aload_n C dL_law_1122 rfl rfl ?_
    refine l_aload_n C dL_law_1123 rfl rfl ?_
    refine l_iload_n C dL_law_1124 rfl rfl ?_
    refine l_iconst (v := 1) C dL_law_1125 (by decide) ?_
    refine l_iadd C dL_law_1126 ?_
    refine l_sld C hi1 dL_law_1127 ?_
    refine l_if_eq (tgt := 1135) C dL_law_1128 (by decide) (fun hc => ?_) (fun hc => ?_)
    rotate_left
    · exact absurd hz hc
    refine l_iconst (v := 0) C dL_law_1135 (by decide) ?_
    refine l_c1 (As := [.int 0]) (st := []) C (t11_image 0 m1) kvX11_image rfl mlL_143 rfl (by decide) rfl (Nat.le_of_ble_eq_true rfl) dL_law_1136 ?_
    refine l_aload_n C dL_law_1139 rfl rfl ?_
    refine l_aload_n C dL_law_1140 rfl rfl ?_
    refine l_iload_n C dL_law_1141 rfl rfl ?_
    refine l_iconst (v := 1) C dL_law_1142 (by decide) ?_
    refine l_iadd C dL_law_1143 ?_
    refine l_sld C hi1 dL_law_1144 ?_
    refine l_if_eq (tgt := 1152) C dL_law_1145 (by decide) (fun hc => ?_) (fun hc => ?_)
    rotate_left
    · exact absurd hz hc
    refine l_iconst (v := 0) C dL_law_1152 (by decide) ?_
    refine l_c2 (As := [.int 0]) (st := [.int r]) C (t12_image 0 m2) kvX12_image rfl mlL_147 rfl (by decide) rfl (Nat.le_of_ble_eq_true rfl) dL_law_1153 ?_
    refine l_icmp_eq (tgt := 1184) C dL_law_1156 (by decide) ?_
    exact kk σ1 τ1 hrel1
  · rw [if_neg hz] at m1 m2
    refine l_aload_n C dL_law_1122 rfl rfl ?_
    refine l_aload_n C dL_law_1123 rfl rfl ?_
    refine l_iload_n C dL_law_1124 rfl rfl ?_
    refine l_iconst (v := 1) C dL_law_1125 (by decide) ?_
    refine l_iadd C dL_law_1126 ?_
    refine l_sld C hi1 dL_law_1127 ?_
    refine l_if_eq (tgt := 1135) C dL_law_1128 (by decide) (fun hc => ?_) (fun hc => ?_)
    · exact absurd hc hz
    refine l_iconst (v := 1) C dL_law_1131 (by decide) ?_
    refine l_goto (tgt := 1136) C dL_law_1132 (by decide) ?_
    refine l_c1 (As := [.int 1]) (st := []) C (t11_image 1 m1) kvX11_image rfl mlL_143 rfl (by decide) rfl (Nat.le_of_ble_eq_true rfl) dL_law_1136 ?_
    refine l_aload_n C dL_law_1139 rfl rfl ?_
    refine l_aload_n C dL_law_1140 rfl rfl ?_
    refine l_iload_n C dL_law_1141 rfl rfl ?_
    refine l_iconst (v := 1) C dL_law_1142 (by decide) ?_
    refine l_iadd C dL_law_1143 ?_
    refine l_sld C hi1 dL_law_1144 ?_
    refine l_if_eq (tgt := 1152) C dL_law_1145 (by decide) (fun hc => ?_) (fun hc => ?_)
    · exact absurd hc hz
    refine l_iconst (v := 1) C dL_law_1148 (by decide) ?_
    refine l_goto (tgt := 1153) C dL_law_1149 (by decide) ?_
    refine l_c2 (As := [.int 1]) (st := [.int r]) C (t12_image 1 m2) kvX12_image rfl mlL_147 rfl (by decide) rfl (Nat.le_of_ble_eq_true rfl) dL_law_1153 ?_
    refine l_icmp_eq (tgt := 1184) C dL_law_1156 (by decide) ?_
    exact kk σ1 τ1 hrel1
set_option maxHeartbeats 4000000 in
set_option maxRecDepth 100000 in
theorem lc_look {Rel : z_M → z_M → Prop} (hp : p_look Rel) {X : z_Ct} {a2 : Nat → Nat} {b L : Nat} {xs : Nat → Int32} (C : l_Cx X a2 b L xs) {i : Int32} (hi0 : vp_in i L) (hi1 : vp_in (i + 1) L) (hi2 : vp_in (i + 2) L) (hi3 : vp_in (i + 3) L) (hi4 : vp_in (i + 4) L) (hi5 : vp_in (i + 5) L) {σ τ : z_M} (hrel : Rel σ τ) (kk : ∀ σ τ : z_M, Rel σ τ → l_W X a2 1184 [some (.ref b), some (.ref (z_a X 0)), some (.ref (a2 0)), some (.int i)] [] σ τ) : l_W X a2 1161 [some (.ref b), some (.ref (z_a X 0)), some (.ref (a2 0)), some (.int i)] [] σ τ := by
  obtain ⟨r, σ1, τ1, m1, m2, hrel1⟩ := hp (xs (i + 1).toNatClampNeg) σ τ hrel
  refine l_aload_n C dL_law_1161 rfl rfl ?_
  refine l_aload_n C dL_law_1162 rfl rfl ?_
  refine l_iload_n C dL_law_1163 rfl rfl ?_
  refine l_iconst (v := 1) C dL_law_1164 (by decide) ?_
  refine l_iadd C dL_law_1165 ?_
  refine l_sld C hi1 dL_law_1166 ?_
  refine l_c1 (As := [.int (xs (i + 1).toNatClampNeg)]) (st := []) C (t11_look (xs (i + 1).toNatClampNeg) m1) kvX11_look rfl mlL_148 rfl (by decide) rfl (Nat.le_of_ble_eq_true rfl) dL_law_1167 ?_
  refine l_aload_n C dL_law_1170 rfl rfl ?_
  refine l_aload_n C dL_law_1171 rfl rfl ?_
  refine l_iload_n C dL_law_1172 rfl rfl ?_
  refine l_iconst (v := 1) C dL_law_1173 (by decide) ?_
  refine l_iadd C dL_law_1174 ?_
  refine l_sld C hi1 dL_law_1175 ?_
  refine l_c2 (As := [.int (xs (i + 1).toNatClampNeg)]) (st := [.int r]) C (t12_look (xs (i + 1).toNatClampNeg) m2) kvX12_look rfl mlL_151 rfl (by decide) rfl (Nat.le_of_ble_eq_true rfl) dL_law_1176 ?_
  refine l_icmp_eq (tgt := 1184) C dL_law_1179 (by decide) ?_
  exact kk σ1 τ1 hrel1
