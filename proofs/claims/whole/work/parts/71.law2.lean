/-- the walk of the law's body: its machine, how it reads the script -/
def LWk (K : Nat → List (Option GV) → List GV → GH → Nat → Nat → Prop) (KX : Nat → List (Option GV) → GH → Nat → Nat → String → Prop) (D : DD) (mc ms b0 L : Nat) (X9 : Int → Int) : Prop :=
  Mach K KX D RL "" cL_law 8 2048 mc ms [] none ∧ (∀ {pc : Nat} {ls : List (Option GV)} {st : List GV} {h : GH} {a b : Nat} {j : Int}, decode cL_law pc = .ok (.iaload, 1) → 0 ≤ j ∧ j < L → K (pc + 1) ls (gI (X9 j) :: st) h a b → K pc ls (gI j :: gR (some b0) :: st) h a b) ∧
  (∀ {pc : Nat} {ls : List (Option GV)} {st : List GV} {h : GH} {a b : Nat}, decode cL_law pc = .ok (.arraylength, 1) → K (pc + 1) ls (gI L :: st) h a b → K pc ls (gR (some b0) :: st) h a b) ∧ ∀ j, -2147483648 ≤ X9 j ∧ X9 j < 2147483648
def zB (v : Int) : Int := if v = 0 then 0 else 1
theorem zB_01 (v : Int) : zB v = 0 ∨ zB v = 1 := by unfold zB; split <;> omega
section
variable {K : Nat → List (Option GV) → List GV → GH → Nat → Nat → Prop} {KX : Nat → List (Option GV) → GH → Nat → Nat → String → Prop} {D : DD} {mc ms b0 L : Nat} {X9 : Int → Int}
/-- addSnippet -/
theorem r_addSnippet (S : LWk K KX D mc ms b0 L X9) {i : Nat} (hi : (i : Int) + 4 ≤ L) {h : GH} {x mo out od a b : Nat} {l6 l7 : Option GV} {fs : List GV} (hx : h x = some (gObj 7 fs)) {k r : Int} {dw mcw msw dm : Nat} {Pw Pm : GH → Prop} (MW : GMet D yL_addSnippet cL_addSnippet 4 (some .int) [(0, 9, 12, 13)] dw mcw msw [gR (some x), gI (zB (X9 (((i : Nat) : Int) + 1))), gR (some out)] h (pr (gI k) Pw)) (MM : ∀ h1, Pw h1 → (∃ gs, h1 mo = some (gObj 8 gs)) ∧ GMet D yX8_addSnippet cX8_addSnippet 2 (some .int) [] dm 0 0 [gR (some mo), gI (zB (X9 (((i : Nat) : Int) + 1)))] h1 (pr (gI r) Pm)) (MT : ∀ h2, Pm h2 → (∃ gs, h2 mo = some (gObj 8 gs)) ∧ GMet D yX8_thrown cX8_thrown 1 (some .int) [] 1 0 0 [gR (some mo)] h2 (pr (gI k) (fun h3 => h3 = h2))) (MC : k = 0 → ∀ h2, Pm h2 → ∃ g, h2 out = some (gArrL 3 1 g) ∧ g 0 = r) (hk : -2147483648 ≤ k ∧ k < 2147483648) (hr : -2147483648 ≤ r ∧ r < 2147483648) (hdw : dw < 2048) (hdm : dm < 2048) (ha : a + mcw ≤ mc) (hb : b + msw ≤ ms) (kk : ∀ (h2 : GH) (l7 : Option GV), Pm h2 → K 2074 [some (gR (some b0)), some (gR (some x)), some (gR (some mo)), some (gR (some out)), some (gR (some od)), some (gI i), some (gI k), l7] [] h2 (a + mcw) (b + msw)) : K 200 [some (gR (some b0)), some (gR (some x)), some (gR (some mo)), some (gR (some out)), some (gR (some od)), some (gI i), l6, l7] [] h a b := by
  by_cases c9 : X9 (((i : Nat) : Int) + 1) = 0
  · have ez : zB (X9 (((i : Nat) : Int) + 1)) = 0 := if_pos c9
    simp only [ez] at MW MM
    refine k_aload_n S.1 dL_law_200 rfl ?_
    refine k_aload_n S.1 dL_law_201 rfl ?_
    refine k_iload S.1 dL_law_202 rfl ?_
    refine k_iconst S.1 dL_law_204 ?_
    refine k_iadd S.1 dL_law_205 ?_
    refine S.2.1 dL_law_206 (by omega) ?_
    refine k_if_eq (tgt := 214) S.1 dL_law_207 (by decide) (S.2.2.2 _) (fun c207 => ?_) (fun c207 => ?_)
    · refine k_iconst S.1 dL_law_214 ?_
      refine k_aload_n S.1 dL_law_215 rfl ?_
      refine k_callS_r S.1 dL_law_216 s_L_121 MW (fun h216 hp216 => ?_) rfl rfl (by omega) (by omega) (by omega) (Nat.le_of_ble_eq_true rfl)
      obtain ⟨⟨gs, hm⟩, MM⟩ := MM h216 hp216
      refine k_istore S.1 dL_law_219 (by decide) ?_
      refine k_aload_n S.1 dL_law_221 rfl ?_
      refine k_aload_n S.1 dL_law_222 rfl ?_
      refine k_iload S.1 dL_law_223 rfl ?_
      refine k_iconst S.1 dL_law_225 ?_
      refine k_iadd S.1 dL_law_226 ?_
      refine S.2.1 dL_law_227 (by omega) ?_
      refine k_if_eq (tgt := 235) S.1 dL_law_228 (by decide) (S.2.2.2 _) (fun c228 => ?_) (fun c228 => ?_)
      · refine k_iconst S.1 dL_law_235 ?_
        refine k_callV_r S.1 dL_law_236 v_L_126 MM (by assumption) (fun h236 hp236 => ?_) rfl rfl (by omega) (by omega) (by omega) (Nat.le_of_ble_eq_true rfl)
        obtain ⟨⟨gs2, hm2⟩, MT⟩ := MT h236 hp236
        refine k_istore S.1 dL_law_239 (by decide) ?_
        refine k_aload_n S.1 dL_law_241 rfl ?_
        refine k_callV_r S.1 dL_law_242 v_L_127 MT (by assumption) (fun h242 hp242 => ?_) rfl rfl (by omega) (by omega) (by omega) (Nat.le_of_ble_eq_true rfl)
        rw [hp242]
        refine k_iload S.1 dL_law_245 rfl ?_
        refine k_icmp_eq (tgt := 252) S.1 dL_law_247 (by decide) hk hk (fun c247 => ?_) (fun c247 => ?_)
        · refine k_iload S.1 dL_law_252 rfl ?_
          refine k_if_ne (tgt := 269) S.1 dL_law_254 (by decide) hk (fun c254 => ?_) (fun c254 => ?_)
          · refine k_goto (tgt := 2074) S.1 dL_law_269 (by decide) ?_
            exact kk _ _ hp236
          · obtain ⟨g, hg, g0⟩ := MC (by omega) h236 hp236
            refine k_aload_n S.1 dL_law_257 rfl ?_
            refine k_iconst S.1 dL_law_258 ?_
            refine k_laload S.1 dL_law_259 hg (by omega) ?_
            refine k_iload S.1 dL_law_260 rfl ?_
            refine k_i2l S.1 dL_law_262 hr ?_
            refine k_lcmp S.1 dL_law_263 (by rw [show ((0 : Int)).toNat = 0 from rfl, g0]; omega) (by omega) ?_
            rw [show ((0 : Int)).toNat = 0 from rfl, g0, if_neg (by omega), if_pos rfl]
            refine k_if_eq (tgt := 269) S.1 dL_law_264 (by decide) (by omega) (fun c264 => ?_) (fun c264 => ?_)
            · refine k_goto (tgt := 2074) S.1 dL_law_269 (by decide) ?_
              exact kk _ _ hp236
            · exact absurd rfl c264
        · exact absurd rfl c247
      · exact absurd c9 c228
    · exact absurd c9 c207
  · have ez : zB (X9 (((i : Nat) : Int) + 1)) = 1 := if_neg c9
    simp only [ez] at MW MM
    refine k_aload_n S.1 dL_law_200 rfl ?_
    refine k_aload_n S.1 dL_law_201 rfl ?_
    refine k_iload S.1 dL_law_202 rfl ?_
    refine k_iconst S.1 dL_law_204 ?_
    refine k_iadd S.1 dL_law_205 ?_
    refine S.2.1 dL_law_206 (by omega) ?_
    refine k_if_eq (tgt := 214) S.1 dL_law_207 (by decide) (S.2.2.2 _) (fun c207 => ?_) (fun c207 => ?_)
    · exact absurd c207 c9
    · refine k_iconst S.1 dL_law_210 ?_
      refine k_goto (tgt := 215) S.1 dL_law_211 (by decide) ?_
      refine k_aload_n S.1 dL_law_215 rfl ?_
      refine k_callS_r S.1 dL_law_216 s_L_121 MW (fun h216 hp216 => ?_) rfl rfl (by omega) (by omega) (by omega) (Nat.le_of_ble_eq_true rfl)
      obtain ⟨⟨gs, hm⟩, MM⟩ := MM h216 hp216
      refine k_istore S.1 dL_law_219 (by decide) ?_
      refine k_aload_n S.1 dL_law_221 rfl ?_
      refine k_aload_n S.1 dL_law_222 rfl ?_
      refine k_iload S.1 dL_law_223 rfl ?_
      refine k_iconst S.1 dL_law_225 ?_
      refine k_iadd S.1 dL_law_226 ?_
      refine S.2.1 dL_law_227 (by omega) ?_
      refine k_if_eq (tgt := 235) S.1 dL_law_228 (by decide) (S.2.2.2 _) (fun c228 => ?_) (fun c228 => ?_)
      · exact absurd c228 c9
      · refine k_iconst S.1 dL_law_231 ?_
        refine k_goto (tgt := 236) S.1 dL_law_232 (by decide) ?_
        refine k_callV_r S.1 dL_law_236 v_L_126 MM (by assumption) (fun h236 hp236 => ?_) rfl rfl (by omega) (by omega) (by omega) (Nat.le_of_ble_eq_true rfl)
        obtain ⟨⟨gs2, hm2⟩, MT⟩ := MT h236 hp236
        refine k_istore S.1 dL_law_239 (by decide) ?_
        refine k_aload_n S.1 dL_law_241 rfl ?_
        refine k_callV_r S.1 dL_law_242 v_L_127 MT (by assumption) (fun h242 hp242 => ?_) rfl rfl (by omega) (by omega) (by omega) (Nat.le_of_ble_eq_true rfl)
        rw [hp242]
        refine k_iload S.1 dL_law_245 rfl ?_
        refine k_icmp_eq (tgt := 252) S.1 dL_law_247 (by decide) hk hk (fun c247 => ?_) (fun c247 => ?_)
        · refine k_iload S.1 dL_law_252 rfl ?_
          refine k_if_ne (tgt := 269) S.1 dL_law_254 (by decide) hk (fun c254 => ?_) (fun c254 => ?_)
          · refine k_goto (tgt := 2074) S.1 dL_law_269 (by decide) ?_
            exact kk _ _ hp236
          · obtain ⟨g, hg, g0⟩ := MC (by omega) h236 hp236
            refine k_aload_n S.1 dL_law_257 rfl ?_
            refine k_iconst S.1 dL_law_258 ?_
            refine k_laload S.1 dL_law_259 hg (by omega) ?_
            refine k_iload S.1 dL_law_260 rfl ?_
            refine k_i2l S.1 dL_law_262 hr ?_
            refine k_lcmp S.1 dL_law_263 (by rw [show ((0 : Int)).toNat = 0 from rfl, g0]; omega) (by omega) ?_
            rw [show ((0 : Int)).toNat = 0 from rfl, g0, if_neg (by omega), if_pos rfl]
            refine k_if_eq (tgt := 269) S.1 dL_law_264 (by decide) (by omega) (fun c264 => ?_) (fun c264 => ?_)
            · refine k_goto (tgt := 2074) S.1 dL_law_269 (by decide) ?_
              exact kk _ _ hp236
            · exact absurd rfl c264
        · exact absurd rfl c247
/-- addToTrigger -/
theorem r_addToTrigger (S : LWk K KX D mc ms b0 L X9) {i : Nat} (hi : (i : Int) + 4 ≤ L) {h : GH} {x mo out od a b : Nat} {l6 l7 : Option GV} {fs : List GV} (hx : h x = some (gObj 7 fs)) {k r : Int} {dw mcw msw dm : Nat} {Pw Pm : GH → Prop} (MW : GMet D yL_addToTrigger cL_addToTrigger 5 (some .int) [(0, 10, 13, 19), (0, 10, 17, 21), (0, 10, 21, 13)] dw mcw msw [gR (some x), gI (X9 (((i : Nat) : Int) + 1)), gI (X9 (((i : Nat) : Int) + 2) % 65536), gR (some out)] h (pr (gI k) Pw)) (MM : ∀ h1, Pw h1 → (∃ gs, h1 mo = some (gObj 8 gs)) ∧ GMet D yX8_addToTrigger cX8_addToTrigger 3 (some .int) [] dm 0 0 [gR (some mo), gI (X9 (((i : Nat) : Int) + 1)), gI (X9 (((i : Nat) : Int) + 2) % 65536)] h1 (pr (gI r) Pm)) (MT : ∀ h2, Pm h2 → (∃ gs, h2 mo = some (gObj 8 gs)) ∧ GMet D yX8_thrown cX8_thrown 1 (some .int) [] 1 0 0 [gR (some mo)] h2 (pr (gI k) (fun h3 => h3 = h2))) (MC : k = 0 → ∀ h2, Pm h2 → ∃ g, h2 out = some (gArrL 3 1 g) ∧ g 0 = r) (hk : -2147483648 ≤ k ∧ k < 2147483648) (hr : -2147483648 ≤ r ∧ r < 2147483648) (hdw : dw < 2048) (hdm : dm < 2048) (ha : a + mcw ≤ mc) (hb : b + msw ≤ ms) (kk : ∀ (h2 : GH) (l7 : Option GV), Pm h2 → K 2074 [some (gR (some b0)), some (gR (some x)), some (gR (some mo)), some (gR (some out)), some (gR (some od)), some (gI i), some (gI k), l7] [] h2 (a + mcw) (b + msw)) : K 272 [some (gR (some b0)), some (gR (some x)), some (gR (some mo)), some (gR (some out)), some (gR (some od)), some (gI i), l6, l7] [] h a b := by
  refine k_aload_n S.1 dL_law_272 rfl ?_
  refine k_aload_n S.1 dL_law_273 rfl ?_
  refine k_iload S.1 dL_law_274 rfl ?_
  refine k_iconst S.1 dL_law_276 ?_
  refine k_iadd S.1 dL_law_277 ?_
  refine S.2.1 dL_law_278 (by omega) ?_
  refine k_aload_n S.1 dL_law_279 rfl ?_
  refine k_iload S.1 dL_law_280 rfl ?_
  refine k_iconst S.1 dL_law_282 ?_
  refine k_iadd S.1 dL_law_283 ?_
  refine S.2.1 dL_law_284 (by omega) ?_
  refine k_i2c S.1 dL_law_285 ?_
  refine k_aload_n S.1 dL_law_286 rfl ?_
  refine k_callS_r S.1 dL_law_287 s_L_130 MW (fun h287 hp287 => ?_) rfl rfl (by omega) (by omega) (by omega) (Nat.le_of_ble_eq_true rfl)
  obtain ⟨⟨gs, hm⟩, MM⟩ := MM h287 hp287
  refine k_istore S.1 dL_law_290 (by decide) ?_
  refine k_aload_n S.1 dL_law_292 rfl ?_
  refine k_aload_n S.1 dL_law_293 rfl ?_
  refine k_iload S.1 dL_law_294 rfl ?_
  refine k_iconst S.1 dL_law_296 ?_
  refine k_iadd S.1 dL_law_297 ?_
  refine S.2.1 dL_law_298 (by omega) ?_
  refine k_aload_n S.1 dL_law_299 rfl ?_
  refine k_iload S.1 dL_law_300 rfl ?_
  refine k_iconst S.1 dL_law_302 ?_
  refine k_iadd S.1 dL_law_303 ?_
  refine S.2.1 dL_law_304 (by omega) ?_
  refine k_i2c S.1 dL_law_305 ?_
  refine k_callV_r S.1 dL_law_306 v_L_133 MM (by assumption) (fun h306 hp306 => ?_) rfl rfl (by omega) (by omega) (by omega) (Nat.le_of_ble_eq_true rfl)
  obtain ⟨⟨gs2, hm2⟩, MT⟩ := MT h306 hp306
  refine k_istore S.1 dL_law_309 (by decide) ?_
  refine k_aload_n S.1 dL_law_311 rfl ?_
  refine k_callV_r S.1 dL_law_312 v_L_127 MT (by assumption) (fun h312 hp312 => ?_) rfl rfl (by omega) (by omega) (by omega) (Nat.le_of_ble_eq_true rfl)
  rw [hp312]
  refine k_iload S.1 dL_law_315 rfl ?_
  refine k_icmp_eq (tgt := 322) S.1 dL_law_317 (by decide) hk hk (fun c317 => ?_) (fun c317 => ?_)
  · refine k_iload S.1 dL_law_322 rfl ?_
    refine k_if_ne (tgt := 339) S.1 dL_law_324 (by decide) hk (fun c324 => ?_) (fun c324 => ?_)
    · refine k_goto (tgt := 2074) S.1 dL_law_339 (by decide) ?_
      exact kk _ _ hp306
    · obtain ⟨g, hg, g0⟩ := MC (by omega) h306 hp306
      refine k_aload_n S.1 dL_law_327 rfl ?_
      refine k_iconst S.1 dL_law_328 ?_
      refine k_laload S.1 dL_law_329 hg (by omega) ?_
      refine k_iload S.1 dL_law_330 rfl ?_
      refine k_i2l S.1 dL_law_332 hr ?_
      refine k_lcmp S.1 dL_law_333 (by rw [show ((0 : Int)).toNat = 0 from rfl, g0]; omega) (by omega) ?_
      rw [show ((0 : Int)).toNat = 0 from rfl, g0, if_neg (by omega), if_pos rfl]
      refine k_if_eq (tgt := 339) S.1 dL_law_334 (by decide) (by omega) (fun c334 => ?_) (fun c334 => ?_)
      · refine k_goto (tgt := 2074) S.1 dL_law_339 (by decide) ?_
        exact kk _ _ hp306
      · exact absurd rfl c334
  · exact absurd rfl c317
/-- clearTrigger -/
theorem r_clearTrigger (S : LWk K KX D mc ms b0 L X9) {i : Nat} (hi : (i : Int) + 4 ≤ L) {h : GH} {x mo out od a b : Nat} {l6 l7 : Option GV} {fs : List GV} (hx : h x = some (gObj 7 fs)) {k r : Int} {dw mcw msw dm : Nat} {Pw Pm : GH → Prop} (MW : GMet D yL_clearTrigger cL_clearTrigger 4 (some .int) [(0, 9, 12, 19)] dw mcw msw [gR (some x), gI (X9 (((i : Nat) : Int) + 1)), gR (some out)] h (pr (gI k) Pw)) (MM : ∀ h1, Pw h1 → (∃ gs, h1 mo = some (gObj 8 gs)) ∧ GMet D yX8_clearTrigger cX8_clearTrigger 3 (some .int) [] dm 0 0 [gR (some mo), gI (X9 (((i : Nat) : Int) + 1))] h1 (pr (gI r) Pm)) (MT : ∀ h2, Pm h2 → (∃ gs, h2 mo = some (gObj 8 gs)) ∧ GMet D yX8_thrown cX8_thrown 1 (some .int) [] 1 0 0 [gR (some mo)] h2 (pr (gI k) (fun h3 => h3 = h2))) (MC : k = 0 → ∀ h2, Pm h2 → ∃ g, h2 out = some (gArrL 3 1 g) ∧ g 0 = r) (hk : -2147483648 ≤ k ∧ k < 2147483648) (hr : -2147483648 ≤ r ∧ r < 2147483648) (hdw : dw < 2048) (hdm : dm < 2048) (ha : a + mcw ≤ mc) (hb : b + msw ≤ ms) (kk : ∀ (h2 : GH) (l7 : Option GV), Pm h2 → K 2074 [some (gR (some b0)), some (gR (some x)), some (gR (some mo)), some (gR (some out)), some (gR (some od)), some (gI i), some (gI k), l7] [] h2 (a + mcw) (b + msw)) : K 342 [some (gR (some b0)), some (gR (some x)), some (gR (some mo)), some (gR (some out)), some (gR (some od)), some (gI i), l6, l7] [] h a b := by
  refine k_aload_n S.1 dL_law_342 rfl ?_
  refine k_aload_n S.1 dL_law_343 rfl ?_
  refine k_iload S.1 dL_law_344 rfl ?_
  refine k_iconst S.1 dL_law_346 ?_
  refine k_iadd S.1 dL_law_347 ?_
  refine S.2.1 dL_law_348 (by omega) ?_
  refine k_aload_n S.1 dL_law_349 rfl ?_
  refine k_callS_r S.1 dL_law_350 s_L_134 MW (fun h350 hp350 => ?_) rfl rfl (by omega) (by omega) (by omega) (Nat.le_of_ble_eq_true rfl)
  obtain ⟨⟨gs, hm⟩, MM⟩ := MM h350 hp350
  refine k_istore S.1 dL_law_353 (by decide) ?_
  refine k_aload_n S.1 dL_law_355 rfl ?_
  refine k_aload_n S.1 dL_law_356 rfl ?_
  refine k_iload S.1 dL_law_357 rfl ?_
  refine k_iconst S.1 dL_law_359 ?_
  refine k_iadd S.1 dL_law_360 ?_
  refine S.2.1 dL_law_361 (by omega) ?_
  refine k_callV_r S.1 dL_law_362 v_L_137 MM (by assumption) (fun h362 hp362 => ?_) rfl rfl (by omega) (by omega) (by omega) (Nat.le_of_ble_eq_true rfl)
  obtain ⟨⟨gs2, hm2⟩, MT⟩ := MT h362 hp362
  refine k_istore S.1 dL_law_365 (by decide) ?_
  refine k_aload_n S.1 dL_law_367 rfl ?_
  refine k_callV_r S.1 dL_law_368 v_L_127 MT (by assumption) (fun h368 hp368 => ?_) rfl rfl (by omega) (by omega) (by omega) (Nat.le_of_ble_eq_true rfl)
  rw [hp368]
  refine k_iload S.1 dL_law_371 rfl ?_
  refine k_icmp_eq (tgt := 378) S.1 dL_law_373 (by decide) hk hk (fun c373 => ?_) (fun c373 => ?_)
  · refine k_iload S.1 dL_law_378 rfl ?_
    refine k_if_ne (tgt := 395) S.1 dL_law_380 (by decide) hk (fun c380 => ?_) (fun c380 => ?_)
    · refine k_goto (tgt := 2074) S.1 dL_law_395 (by decide) ?_
      exact kk _ _ hp362
    · obtain ⟨g, hg, g0⟩ := MC (by omega) h362 hp362
      refine k_aload_n S.1 dL_law_383 rfl ?_
      refine k_iconst S.1 dL_law_384 ?_
      refine k_laload S.1 dL_law_385 hg (by omega) ?_
      refine k_iload S.1 dL_law_386 rfl ?_
      refine k_i2l S.1 dL_law_388 hr ?_
      refine k_lcmp S.1 dL_law_389 (by rw [show ((0 : Int)).toNat = 0 from rfl, g0]; omega) (by omega) ?_
      rw [show ((0 : Int)).toNat = 0 from rfl, g0, if_neg (by omega), if_pos rfl]
      refine k_if_eq (tgt := 395) S.1 dL_law_390 (by decide) (by omega) (fun c390 => ?_) (fun c390 => ?_)
      · refine k_goto (tgt := 2074) S.1 dL_law_395 (by decide) ?_
        exact kk _ _ hp362
      · exact absurd rfl c390
  · exact absurd rfl c373
/-- setOn -/
theorem r_setOn (S : LWk K KX D mc ms b0 L X9) {i : Nat} (hi : (i : Int) + 4 ≤ L) {h : GH} {x mo out od a b : Nat} {l6 l7 : Option GV} {fs : List GV} (hx : h x = some (gObj 7 fs)) {k r : Int} {dw mcw msw dm : Nat} {Pw Pm : GH → Prop} (MW : GMet D yL_setOn cL_setOn 5 (some .int) [(0, 17, 20, 19)] dw mcw msw [gR (some x), gI (X9 (((i : Nat) : Int) + 1)), gI (zB (X9 (((i : Nat) : Int) + 2))), gR (some out)] h (pr (gI k) Pw)) (MM : ∀ h1, Pw h1 → (∃ gs, h1 mo = some (gObj 8 gs)) ∧ GMet D yX8_setOn cX8_setOn 4 (some .boolean) [] dm 0 0 [gR (some mo), gI (X9 (((i : Nat) : Int) + 1)), gI (zB (X9 (((i : Nat) : Int) + 2)))] h1 (pr (gI r) Pm)) (MT : ∀ h2, Pm h2 → (∃ gs, h2 mo = some (gObj 8 gs)) ∧ GMet D yX8_thrown cX8_thrown 1 (some .int) [] 1 0 0 [gR (some mo)] h2 (pr (gI k) (fun h3 => h3 = h2))) (MC : k = 0 → ∀ h2, Pm h2 → ∃ g, h2 out = some (gArrL 3 1 g) ∧ g 0 = r) (hk : -2147483648 ≤ k ∧ k < 2147483648) (hr : -2147483648 ≤ r ∧ r < 2147483648) (hr2 : r = 0 ∨ r = 1) (hdw : dw < 2048) (hdm : dm < 2048) (ha : a + mcw ≤ mc) (hb : b + msw ≤ ms) (kk : ∀ (h2 : GH) (l7 : Option GV), Pm h2 → K 2074 [some (gR (some b0)), some (gR (some x)), some (gR (some mo)), some (gR (some out)), some (gR (some od)), some (gI i), some (gI k), l7] [] h2 (a + mcw) (b + msw)) : K 398 [some (gR (some b0)), some (gR (some x)), some (gR (some mo)), some (gR (some out)), some (gR (some od)), some (gI i), l6, l7] [] h a b := by
  by_cases c9 : X9 (((i : Nat) : Int) + 2) = 0
  · have ez : zB (X9 (((i : Nat) : Int) + 2)) = 0 := if_pos c9
    simp only [ez] at MW MM
    refine k_aload_n S.1 dL_law_398 rfl ?_
    refine k_aload_n S.1 dL_law_399 rfl ?_
    refine k_iload S.1 dL_law_400 rfl ?_
    refine k_iconst S.1 dL_law_402 ?_
    refine k_iadd S.1 dL_law_403 ?_
    refine S.2.1 dL_law_404 (by omega) ?_
    refine k_aload_n S.1 dL_law_405 rfl ?_
    refine k_iload S.1 dL_law_406 rfl ?_
    refine k_iconst S.1 dL_law_408 ?_
    refine k_iadd S.1 dL_law_409 ?_
    refine S.2.1 dL_law_410 (by omega) ?_
    refine k_if_eq (tgt := 418) S.1 dL_law_411 (by decide) (S.2.2.2 _) (fun c411 => ?_) (fun c411 => ?_)
    · refine k_iconst S.1 dL_law_418 ?_
      refine k_aload_n S.1 dL_law_419 rfl ?_
      refine k_callS_r S.1 dL_law_420 s_L_138 MW (fun h420 hp420 => ?_) rfl rfl (by omega) (by omega) (by omega) (Nat.le_of_ble_eq_true rfl)
      obtain ⟨⟨gs, hm⟩, MM⟩ := MM h420 hp420
      refine k_istore S.1 dL_law_423 (by decide) ?_
      refine k_aload_n S.1 dL_law_425 rfl ?_
      refine k_aload_n S.1 dL_law_426 rfl ?_
      refine k_iload S.1 dL_law_427 rfl ?_
      refine k_iconst S.1 dL_law_429 ?_
      refine k_iadd S.1 dL_law_430 ?_
      refine S.2.1 dL_law_431 (by omega) ?_
      refine k_aload_n S.1 dL_law_432 rfl ?_
      refine k_iload S.1 dL_law_433 rfl ?_
      refine k_iconst S.1 dL_law_435 ?_
      refine k_iadd S.1 dL_law_436 ?_
      refine S.2.1 dL_law_437 (by omega) ?_
      refine k_if_eq (tgt := 445) S.1 dL_law_438 (by decide) (S.2.2.2 _) (fun c438 => ?_) (fun c438 => ?_)
      · refine k_iconst S.1 dL_law_445 ?_
        refine k_callV_r S.1 dL_law_446 v_L_141 MM (by assumption) (fun h446 hp446 => ?_) rfl rfl (by omega) (by omega) (by omega) (Nat.le_of_ble_eq_true rfl)
        obtain ⟨⟨gs2, hm2⟩, MT⟩ := MT h446 hp446
        refine k_istore S.1 dL_law_449 (by decide) ?_
        refine k_aload_n S.1 dL_law_451 rfl ?_
        refine k_callV_r S.1 dL_law_452 v_L_127 MT (by assumption) (fun h452 hp452 => ?_) rfl rfl (by omega) (by omega) (by omega) (Nat.le_of_ble_eq_true rfl)
        rw [hp452]
        refine k_iload S.1 dL_law_455 rfl ?_
        refine k_icmp_eq (tgt := 462) S.1 dL_law_457 (by decide) hk hk (fun c457 => ?_) (fun c457 => ?_)
        · refine k_iload S.1 dL_law_462 rfl ?_
          refine k_if_ne (tgt := 486) S.1 dL_law_464 (by decide) hk (fun c464 => ?_) (fun c464 => ?_)
          · refine k_goto (tgt := 2074) S.1 dL_law_486 (by decide) ?_
            exact kk _ _ hp446
          · obtain ⟨g, hg, g0⟩ := MC (by omega) h446 hp446
            refine k_aload_n S.1 dL_law_467 rfl ?_
            refine k_iconst S.1 dL_law_468 ?_
            refine k_laload S.1 dL_law_469 hg (by omega) ?_
            refine k_iload S.1 dL_law_470 rfl ?_
            refine k_if_eq (tgt := 479) S.1 dL_law_472 (by decide) hr (fun c472 => ?_) (fun c472 => ?_)
            · refine k_lconst S.1 (v := 0) rfl dL_law_479 ?_
              refine k_lcmp S.1 dL_law_480 (by rw [show ((0 : Int)).toNat = 0 from rfl, g0]; omega) (by omega) ?_
              rw [show ((0 : Int)).toNat = 0 from rfl, g0, if_neg (by omega), if_pos (by omega)]
              refine k_if_eq (tgt := 486) S.1 dL_law_481 (by decide) (by omega) (fun c481 => ?_) (fun c481 => ?_)
              · refine k_goto (tgt := 2074) S.1 dL_law_486 (by decide) ?_
                exact kk _ _ hp446
              · exact absurd rfl c481
            · refine k_lconst S.1 (v := 1) rfl dL_law_475 ?_
              refine k_goto (tgt := 480) S.1 dL_law_476 (by decide) ?_
              refine k_lcmp S.1 dL_law_480 (by rw [show ((0 : Int)).toNat = 0 from rfl, g0]; omega) (by omega) ?_
              rw [show ((0 : Int)).toNat = 0 from rfl, g0, if_neg (by omega), if_pos (by omega)]
              refine k_if_eq (tgt := 486) S.1 dL_law_481 (by decide) (by omega) (fun c481 => ?_) (fun c481 => ?_)
              · refine k_goto (tgt := 2074) S.1 dL_law_486 (by decide) ?_
                exact kk _ _ hp446
              · exact absurd rfl c481
        · exact absurd rfl c457
      · exact absurd c9 c438
    · exact absurd c9 c411
  · have ez : zB (X9 (((i : Nat) : Int) + 2)) = 1 := if_neg c9
    simp only [ez] at MW MM
    refine k_aload_n S.1 dL_law_398 rfl ?_
    refine k_aload_n S.1 dL_law_399 rfl ?_
    refine k_iload S.1 dL_law_400 rfl ?_
    refine k_iconst S.1 dL_law_402 ?_
    refine k_iadd S.1 dL_law_403 ?_
    refine S.2.1 dL_law_404 (by omega) ?_
    refine k_aload_n S.1 dL_law_405 rfl ?_
    refine k_iload S.1 dL_law_406 rfl ?_
    refine k_iconst S.1 dL_law_408 ?_
    refine k_iadd S.1 dL_law_409 ?_
    refine S.2.1 dL_law_410 (by omega) ?_
    refine k_if_eq (tgt := 418) S.1 dL_law_411 (by decide) (S.2.2.2 _) (fun c411 => ?_) (fun c411 => ?_)
    · exact absurd c411 c9
    · refine k_iconst S.1 dL_law_414 ?_
      refine k_goto (tgt := 419) S.1 dL_law_415 (by decide) ?_
      refine k_aload_n S.1 dL_law_419 rfl ?_
      refine k_callS_r S.1 dL_law_420 s_L_138 MW (fun h420 hp420 => ?_) rfl rfl (by omega) (by omega) (by omega) (Nat.le_of_ble_eq_true rfl)
      obtain ⟨⟨gs, hm⟩, MM⟩ := MM h420 hp420
      refine k_istore S.1 dL_law_423 (by decide) ?_
      refine k_aload_n S.1 dL_law_425 rfl ?_
      refine k_aload_n S.1 dL_law_426 rfl ?_
      refine k_iload S.1 dL_law_427 rfl ?_
      refine k_iconst S.1 dL_law_429 ?_
      refine k_iadd S.1 dL_law_430 ?_
      refine S.2.1 dL_law_431 (by omega) ?_
      refine k_aload_n S.1 dL_law_432 rfl ?_
      refine k_iload S.1 dL_law_433 rfl ?_
      refine k_iconst S.1 dL_law_435 ?_
      refine k_iadd S.1 dL_law_436 ?_
      refine S.2.1 dL_law_437 (by omega) ?_
      refine k_if_eq (tgt := 445) S.1 dL_law_438 (by decide) (S.2.2.2 _) (fun c438 => ?_) (fun c438 => ?_)
      · exact absurd c438 c9
      · refine k_iconst S.1 dL_law_441 ?_
        refine k_goto (tgt := 446) S.1 dL_law_442 (by decide) ?_
        refine k_callV_r S.1 dL_law_446 v_L_141 MM (by assumption) (fun h446 hp446 => ?_) rfl rfl (by omega) (by omega) (by omega) (Nat.le_of_ble_eq_true rfl)
        obtain ⟨⟨gs2, hm2⟩, MT⟩ := MT h446 hp446
        refine k_istore S.1 dL_law_449 (by decide) ?_
        refine k_aload_n S.1 dL_law_451 rfl ?_
        refine k_callV_r S.1 dL_law_452 v_L_127 MT (by assumption) (fun h452 hp452 => ?_) rfl rfl (by omega) (by omega) (by omega) (Nat.le_of_ble_eq_true rfl)
        rw [hp452]
        refine k_iload S.1 dL_law_455 rfl ?_
        refine k_icmp_eq (tgt := 462) S.1 dL_law_457 (by decide) hk hk (fun c457 => ?_) (fun c457 => ?_)
        · refine k_iload S.1 dL_law_462 rfl ?_
          refine k_if_ne (tgt := 486) S.1 dL_law_464 (by decide) hk (fun c464 => ?_) (fun c464 => ?_)
          · refine k_goto (tgt := 2074) S.1 dL_law_486 (by decide) ?_
            exact kk _ _ hp446
          · obtain ⟨g, hg, g0⟩ := MC (by omega) h446 hp446
            refine k_aload_n S.1 dL_law_467 rfl ?_
            refine k_iconst S.1 dL_law_468 ?_
            refine k_laload S.1 dL_law_469 hg (by omega) ?_
            refine k_iload S.1 dL_law_470 rfl ?_
            refine k_if_eq (tgt := 479) S.1 dL_law_472 (by decide) hr (fun c472 => ?_) (fun c472 => ?_)
            · refine k_lconst S.1 (v := 0) rfl dL_law_479 ?_
              refine k_lcmp S.1 dL_law_480 (by rw [show ((0 : Int)).toNat = 0 from rfl, g0]; omega) (by omega) ?_
              rw [show ((0 : Int)).toNat = 0 from rfl, g0, if_neg (by omega), if_pos (by omega)]
              refine k_if_eq (tgt := 486) S.1 dL_law_481 (by decide) (by omega) (fun c481 => ?_) (fun c481 => ?_)
              · refine k_goto (tgt := 2074) S.1 dL_law_486 (by decide) ?_
                exact kk _ _ hp446
              · exact absurd rfl c481
            · refine k_lconst S.1 (v := 1) rfl dL_law_475 ?_
              refine k_goto (tgt := 480) S.1 dL_law_476 (by decide) ?_
              refine k_lcmp S.1 dL_law_480 (by rw [show ((0 : Int)).toNat = 0 from rfl, g0]; omega) (by omega) ?_
              rw [show ((0 : Int)).toNat = 0 from rfl, g0, if_neg (by omega), if_pos (by omega)]
              refine k_if_eq (tgt := 486) S.1 dL_law_481 (by decide) (by omega) (fun c481 => ?_) (fun c481 => ?_)
              · refine k_goto (tgt := 2074) S.1 dL_law_486 (by decide) ?_
                exact kk _ _ hp446
              · exact absurd rfl c481
        · exact absurd rfl c457
/-- putCharacter -/
theorem r_putCharacter (S : LWk K KX D mc ms b0 L X9) {i : Nat} (hi : (i : Int) + 4 ≤ L) {h : GH} {x mo out od a b : Nat} {l6 l7 : Option GV} {fs : List GV} (hx : h x = some (gObj 7 fs)) {k r : Int} {dw mcw msw dm : Nat} {Pw Pm : GH → Prop} (MW : GMet D yL_putCharacter cL_putCharacter 5 (some .int) [(0, 10, 13, 19), (0, 10, 17, 21), (0, 10, 21, 13)] dw mcw msw [gR (some x), gI (X9 (((i : Nat) : Int) + 1)), gI (X9 (((i : Nat) : Int) + 2) % 65536), gR (some out)] h (pr (gI k) Pw)) (MM : ∀ h1, Pw h1 → (∃ gs, h1 mo = some (gObj 8 gs)) ∧ GMet D yX8_putCharacter cX8_putCharacter 3 (some .int) [] dm 0 0 [gR (some mo), gI (X9 (((i : Nat) : Int) + 1)), gI (X9 (((i : Nat) : Int) + 2) % 65536)] h1 (pr (gI r) Pm)) (MT : ∀ h2, Pm h2 → (∃ gs, h2 mo = some (gObj 8 gs)) ∧ GMet D yX8_thrown cX8_thrown 1 (some .int) [] 1 0 0 [gR (some mo)] h2 (pr (gI k) (fun h3 => h3 = h2))) (MC : k = 0 → ∀ h2, Pm h2 → ∃ g, h2 out = some (gArrL 3 1 g) ∧ g 0 = r) (hk : -2147483648 ≤ k ∧ k < 2147483648) (hr : -2147483648 ≤ r ∧ r < 2147483648) (hdw : dw < 2048) (hdm : dm < 2048) (ha : a + mcw ≤ mc) (hb : b + msw ≤ ms) (kk : ∀ (h2 : GH) (l7 : Option GV), Pm h2 → K 2074 [some (gR (some b0)), some (gR (some x)), some (gR (some mo)), some (gR (some out)), some (gR (some od)), some (gI i), some (gI k), l7] [] h2 (a + mcw) (b + msw)) : K 489 [some (gR (some b0)), some (gR (some x)), some (gR (some mo)), some (gR (some out)), some (gR (some od)), some (gI i), l6, l7] [] h a b := by
  refine k_aload_n S.1 dL_law_489 rfl ?_
  refine k_aload_n S.1 dL_law_490 rfl ?_
  refine k_iload S.1 dL_law_491 rfl ?_
  refine k_iconst S.1 dL_law_493 ?_
  refine k_iadd S.1 dL_law_494 ?_
  refine S.2.1 dL_law_495 (by omega) ?_
  refine k_aload_n S.1 dL_law_496 rfl ?_
  refine k_iload S.1 dL_law_497 rfl ?_
  refine k_iconst S.1 dL_law_499 ?_
  refine k_iadd S.1 dL_law_500 ?_
  refine S.2.1 dL_law_501 (by omega) ?_
  refine k_i2c S.1 dL_law_502 ?_
  refine k_aload_n S.1 dL_law_503 rfl ?_
  refine k_callS_r S.1 dL_law_504 s_L_142 MW (fun h504 hp504 => ?_) rfl rfl (by omega) (by omega) (by omega) (Nat.le_of_ble_eq_true rfl)
  obtain ⟨⟨gs, hm⟩, MM⟩ := MM h504 hp504
  refine k_istore S.1 dL_law_507 (by decide) ?_
  refine k_aload_n S.1 dL_law_509 rfl ?_
  refine k_aload_n S.1 dL_law_510 rfl ?_
  refine k_iload S.1 dL_law_511 rfl ?_
  refine k_iconst S.1 dL_law_513 ?_
  refine k_iadd S.1 dL_law_514 ?_
  refine S.2.1 dL_law_515 (by omega) ?_
  refine k_aload_n S.1 dL_law_516 rfl ?_
  refine k_iload S.1 dL_law_517 rfl ?_
  refine k_iconst S.1 dL_law_519 ?_
  refine k_iadd S.1 dL_law_520 ?_
  refine S.2.1 dL_law_521 (by omega) ?_
  refine k_i2c S.1 dL_law_522 ?_
  refine k_callV_r S.1 dL_law_523 v_L_144 MM (by assumption) (fun h523 hp523 => ?_) rfl rfl (by omega) (by omega) (by omega) (Nat.le_of_ble_eq_true rfl)
  obtain ⟨⟨gs2, hm2⟩, MT⟩ := MT h523 hp523
  refine k_istore S.1 dL_law_526 (by decide) ?_
  refine k_aload_n S.1 dL_law_528 rfl ?_
  refine k_callV_r S.1 dL_law_529 v_L_127 MT (by assumption) (fun h529 hp529 => ?_) rfl rfl (by omega) (by omega) (by omega) (Nat.le_of_ble_eq_true rfl)
  rw [hp529]
  refine k_iload S.1 dL_law_532 rfl ?_
  refine k_icmp_eq (tgt := 539) S.1 dL_law_534 (by decide) hk hk (fun c534 => ?_) (fun c534 => ?_)
  · refine k_iload S.1 dL_law_539 rfl ?_
    refine k_if_ne (tgt := 556) S.1 dL_law_541 (by decide) hk (fun c541 => ?_) (fun c541 => ?_)
    · refine k_goto (tgt := 2074) S.1 dL_law_556 (by decide) ?_
      exact kk _ _ hp523
    · obtain ⟨g, hg, g0⟩ := MC (by omega) h523 hp523
      refine k_aload_n S.1 dL_law_544 rfl ?_
      refine k_iconst S.1 dL_law_545 ?_
      refine k_laload S.1 dL_law_546 hg (by omega) ?_
      refine k_iload S.1 dL_law_547 rfl ?_
      refine k_i2l S.1 dL_law_549 hr ?_
      refine k_lcmp S.1 dL_law_550 (by rw [show ((0 : Int)).toNat = 0 from rfl, g0]; omega) (by omega) ?_
      rw [show ((0 : Int)).toNat = 0 from rfl, g0, if_neg (by omega), if_pos rfl]
      refine k_if_eq (tgt := 556) S.1 dL_law_551 (by decide) (by omega) (fun c551 => ?_) (fun c551 => ?_)
      · refine k_goto (tgt := 2074) S.1 dL_law_556 (by decide) ?_
        exact kk _ _ hp523
      · exact absurd rfl c551
  · exact absurd rfl c534
/-- putSnippet -/
theorem r_putSnippet (S : LWk K KX D mc ms b0 L X9) {i : Nat} (hi : (i : Int) + 4 ≤ L) {h : GH} {x mo out od a b : Nat} {l6 l7 : Option GV} {fs : List GV} (hx : h x = some (gObj 7 fs)) {k r : Int} {dw mcw msw dm : Nat} {Pw Pm : GH → Prop} (MW : GMet D yL_putSnippet cL_putSnippet 5 (some .int) [(0, 10, 13, 19), (0, 10, 17, 38), (0, 10, 21, 13)] dw mcw msw [gR (some x), gI (X9 (((i : Nat) : Int) + 1)), gI (X9 (((i : Nat) : Int) + 2)), gR (some out)] h (pr (gI k) Pw)) (MM : ∀ h1, Pw h1 → (∃ gs, h1 mo = some (gObj 8 gs)) ∧ GMet D yX8_putSnippet cX8_putSnippet 3 (some .int) [] dm 0 0 [gR (some mo), gI (X9 (((i : Nat) : Int) + 1)), gI (X9 (((i : Nat) : Int) + 2))] h1 (pr (gI r) Pm)) (MT : ∀ h2, Pm h2 → (∃ gs, h2 mo = some (gObj 8 gs)) ∧ GMet D yX8_thrown cX8_thrown 1 (some .int) [] 1 0 0 [gR (some mo)] h2 (pr (gI k) (fun h3 => h3 = h2))) (MC : k = 0 → ∀ h2, Pm h2 → ∃ g, h2 out = some (gArrL 3 1 g) ∧ g 0 = r) (hk : -2147483648 ≤ k ∧ k < 2147483648) (hr : -2147483648 ≤ r ∧ r < 2147483648) (hdw : dw < 2048) (hdm : dm < 2048) (ha : a + mcw ≤ mc) (hb : b + msw ≤ ms) (kk : ∀ (h2 : GH) (l7 : Option GV), Pm h2 → K 2074 [some (gR (some b0)), some (gR (some x)), some (gR (some mo)), some (gR (some out)), some (gR (some od)), some (gI i), some (gI k), l7] [] h2 (a + mcw) (b + msw)) : K 559 [some (gR (some b0)), some (gR (some x)), some (gR (some mo)), some (gR (some out)), some (gR (some od)), some (gI i), l6, l7] [] h a b := by
  refine k_aload_n S.1 dL_law_559 rfl ?_
  refine k_aload_n S.1 dL_law_560 rfl ?_
  refine k_iload S.1 dL_law_561 rfl ?_
  refine k_iconst S.1 dL_law_563 ?_
  refine k_iadd S.1 dL_law_564 ?_
  refine S.2.1 dL_law_565 (by omega) ?_
  refine k_aload_n S.1 dL_law_566 rfl ?_
  refine k_iload S.1 dL_law_567 rfl ?_
  refine k_iconst S.1 dL_law_569 ?_
  refine k_iadd S.1 dL_law_570 ?_
  refine S.2.1 dL_law_571 (by omega) ?_
  refine k_aload_n S.1 dL_law_572 rfl ?_
  refine k_callS_r S.1 dL_law_573 s_L_145 MW (fun h573 hp573 => ?_) rfl rfl (by omega) (by omega) (by omega) (Nat.le_of_ble_eq_true rfl)
  obtain ⟨⟨gs, hm⟩, MM⟩ := MM h573 hp573
  refine k_istore S.1 dL_law_576 (by decide) ?_
  refine k_aload_n S.1 dL_law_578 rfl ?_
  refine k_aload_n S.1 dL_law_579 rfl ?_
  refine k_iload S.1 dL_law_580 rfl ?_
  refine k_iconst S.1 dL_law_582 ?_
  refine k_iadd S.1 dL_law_583 ?_
  refine S.2.1 dL_law_584 (by omega) ?_
  refine k_aload_n S.1 dL_law_585 rfl ?_
  refine k_iload S.1 dL_law_586 rfl ?_
  refine k_iconst S.1 dL_law_588 ?_
  refine k_iadd S.1 dL_law_589 ?_
  refine S.2.1 dL_law_590 (by omega) ?_
  refine k_callV_r S.1 dL_law_591 v_L_148 MM (by assumption) (fun h591 hp591 => ?_) rfl rfl (by omega) (by omega) (by omega) (Nat.le_of_ble_eq_true rfl)
  obtain ⟨⟨gs2, hm2⟩, MT⟩ := MT h591 hp591
  refine k_istore S.1 dL_law_594 (by decide) ?_
  refine k_aload_n S.1 dL_law_596 rfl ?_
  refine k_callV_r S.1 dL_law_597 v_L_127 MT (by assumption) (fun h597 hp597 => ?_) rfl rfl (by omega) (by omega) (by omega) (Nat.le_of_ble_eq_true rfl)
  rw [hp597]
  refine k_iload S.1 dL_law_600 rfl ?_
  refine k_icmp_eq (tgt := 607) S.1 dL_law_602 (by decide) hk hk (fun c602 => ?_) (fun c602 => ?_)
  · refine k_iload S.1 dL_law_607 rfl ?_
    refine k_if_ne (tgt := 624) S.1 dL_law_609 (by decide) hk (fun c609 => ?_) (fun c609 => ?_)
    · refine k_goto (tgt := 2074) S.1 dL_law_624 (by decide) ?_
      exact kk _ _ hp591
    · obtain ⟨g, hg, g0⟩ := MC (by omega) h591 hp591
      refine k_aload_n S.1 dL_law_612 rfl ?_
      refine k_iconst S.1 dL_law_613 ?_
      refine k_laload S.1 dL_law_614 hg (by omega) ?_
      refine k_iload S.1 dL_law_615 rfl ?_
      refine k_i2l S.1 dL_law_617 hr ?_
      refine k_lcmp S.1 dL_law_618 (by rw [show ((0 : Int)).toNat = 0 from rfl, g0]; omega) (by omega) ?_
      rw [show ((0 : Int)).toNat = 0 from rfl, g0, if_neg (by omega), if_pos rfl]
      refine k_if_eq (tgt := 624) S.1 dL_law_619 (by decide) (by omega) (fun c619 => ?_) (fun c619 => ?_)
      · refine k_goto (tgt := 2074) S.1 dL_law_624 (by decide) ?_
        exact kk _ _ hp591
      · exact absurd rfl c619
  · exact absurd rfl c602
/-- putChoice -/
theorem r_putChoice (S : LWk K KX D mc ms b0 L X9) {i : Nat} (hi : (i : Int) + 4 ≤ L) {h : GH} {x mo out od a b : Nat} {l6 l7 : Option GV} {fs : List GV} (hx : h x = some (gObj 7 fs)) {k r : Int} {dw mcw msw dm : Nat} {Pw Pm : GH → Prop} (MW : GMet D yL_putChoice cL_putChoice 6 (some .int) [(0, 12, 15, 19), (0, 12, 19, 38), (0, 12, 23, 13)] dw mcw msw [gR (some x), gI (X9 (((i : Nat) : Int) + 1)), gI (X9 (((i : Nat) : Int) + 2)), gI (X9 (((i : Nat) : Int) + 3)), gR (some out)] h (pr (gI k) Pw)) (MM : ∀ h1, Pw h1 → (∃ gs, h1 mo = some (gObj 8 gs)) ∧ GMet D yX8_putChoice cX8_putChoice 4 (some .int) [] dm 0 0 [gR (some mo), gI (X9 (((i : Nat) : Int) + 1)), gI (X9 (((i : Nat) : Int) + 2)), gI (X9 (((i : Nat) : Int) + 3))] h1 (pr (gI r) Pm)) (MT : ∀ h2, Pm h2 → (∃ gs, h2 mo = some (gObj 8 gs)) ∧ GMet D yX8_thrown cX8_thrown 1 (some .int) [] 1 0 0 [gR (some mo)] h2 (pr (gI k) (fun h3 => h3 = h2))) (MC : k = 0 → ∀ h2, Pm h2 → ∃ g, h2 out = some (gArrL 3 1 g) ∧ g 0 = r) (hk : -2147483648 ≤ k ∧ k < 2147483648) (hr : -2147483648 ≤ r ∧ r < 2147483648) (hdw : dw < 2048) (hdm : dm < 2048) (ha : a + mcw ≤ mc) (hb : b + msw ≤ ms) (kk : ∀ (h2 : GH) (l7 : Option GV), Pm h2 → K 2074 [some (gR (some b0)), some (gR (some x)), some (gR (some mo)), some (gR (some out)), some (gR (some od)), some (gI i), some (gI k), l7] [] h2 (a + mcw) (b + msw)) : K 627 [some (gR (some b0)), some (gR (some x)), some (gR (some mo)), some (gR (some out)), some (gR (some od)), some (gI i), l6, l7] [] h a b := by
  refine k_aload_n S.1 dL_law_627 rfl ?_
  refine k_aload_n S.1 dL_law_628 rfl ?_
  refine k_iload S.1 dL_law_629 rfl ?_
  refine k_iconst S.1 dL_law_631 ?_
  refine k_iadd S.1 dL_law_632 ?_
  refine S.2.1 dL_law_633 (by omega) ?_
  refine k_aload_n S.1 dL_law_634 rfl ?_
  refine k_iload S.1 dL_law_635 rfl ?_
  refine k_iconst S.1 dL_law_637 ?_
  refine k_iadd S.1 dL_law_638 ?_
  refine S.2.1 dL_law_639 (by omega) ?_
  refine k_aload_n S.1 dL_law_640 rfl ?_
  refine k_iload S.1 dL_law_641 rfl ?_
  refine k_iconst S.1 dL_law_643 ?_
  refine k_iadd S.1 dL_law_644 ?_
  refine S.2.1 dL_law_645 (by omega) ?_
  refine k_aload_n S.1 dL_law_646 rfl ?_
  refine k_callS_r S.1 dL_law_647 s_L_149 MW (fun h647 hp647 => ?_) rfl rfl (by omega) (by omega) (by omega) (Nat.le_of_ble_eq_true rfl)
  obtain ⟨⟨gs, hm⟩, MM⟩ := MM h647 hp647
  refine k_istore S.1 dL_law_650 (by decide) ?_
  refine k_aload_n S.1 dL_law_652 rfl ?_
  refine k_aload_n S.1 dL_law_653 rfl ?_
  refine k_iload S.1 dL_law_654 rfl ?_
  refine k_iconst S.1 dL_law_656 ?_
  refine k_iadd S.1 dL_law_657 ?_
  refine S.2.1 dL_law_658 (by omega) ?_
  refine k_aload_n S.1 dL_law_659 rfl ?_
  refine k_iload S.1 dL_law_660 rfl ?_
  refine k_iconst S.1 dL_law_662 ?_
  refine k_iadd S.1 dL_law_663 ?_
  refine S.2.1 dL_law_664 (by omega) ?_
  refine k_aload_n S.1 dL_law_665 rfl ?_
  refine k_iload S.1 dL_law_666 rfl ?_
  refine k_iconst S.1 dL_law_668 ?_
  refine k_iadd S.1 dL_law_669 ?_
  refine S.2.1 dL_law_670 (by omega) ?_
  refine k_callV_r S.1 dL_law_671 v_L_152 MM (by assumption) (fun h671 hp671 => ?_) rfl rfl (by omega) (by omega) (by omega) (Nat.le_of_ble_eq_true rfl)
  obtain ⟨⟨gs2, hm2⟩, MT⟩ := MT h671 hp671
  refine k_istore S.1 dL_law_674 (by decide) ?_
  refine k_aload_n S.1 dL_law_676 rfl ?_
  refine k_callV_r S.1 dL_law_677 v_L_127 MT (by assumption) (fun h677 hp677 => ?_) rfl rfl (by omega) (by omega) (by omega) (Nat.le_of_ble_eq_true rfl)
  rw [hp677]
  refine k_iload S.1 dL_law_680 rfl ?_
  refine k_icmp_eq (tgt := 687) S.1 dL_law_682 (by decide) hk hk (fun c682 => ?_) (fun c682 => ?_)
  · refine k_iload S.1 dL_law_687 rfl ?_
    refine k_if_ne (tgt := 704) S.1 dL_law_689 (by decide) hk (fun c689 => ?_) (fun c689 => ?_)
    · refine k_goto (tgt := 2074) S.1 dL_law_704 (by decide) ?_
      exact kk _ _ hp671
    · obtain ⟨g, hg, g0⟩ := MC (by omega) h671 hp671
      refine k_aload_n S.1 dL_law_692 rfl ?_
      refine k_iconst S.1 dL_law_693 ?_
      refine k_laload S.1 dL_law_694 hg (by omega) ?_
      refine k_iload S.1 dL_law_695 rfl ?_
      refine k_i2l S.1 dL_law_697 hr ?_
      refine k_lcmp S.1 dL_law_698 (by rw [show ((0 : Int)).toNat = 0 from rfl, g0]; omega) (by omega) ?_
      rw [show ((0 : Int)).toNat = 0 from rfl, g0, if_neg (by omega), if_pos rfl]
      refine k_if_eq (tgt := 704) S.1 dL_law_699 (by decide) (by omega) (fun c699 => ?_) (fun c699 => ?_)
      · refine k_goto (tgt := 2074) S.1 dL_law_704 (by decide) ?_
        exact kk _ _ hp671
      · exact absurd rfl c699
  · exact absurd rfl c682
/-- putDate -/
theorem r_putDate (S : LWk K KX D mc ms b0 L X9) {i : Nat} (hi : (i : Int) + 4 ≤ L) {h : GH} {x mo out od a b : Nat} {l6 l7 : Option GV} {fs : List GV} (hx : h x = some (gObj 7 fs)) {k r : Int} {dw mcw msw dm : Nat} {Pw Pm : GH → Prop} (MW : GMet D yL_putDate cL_putDate 6 (some .int) [(0, 12, 15, 19), (0, 12, 19, 21), (0, 12, 23, 13)] dw mcw msw [gR (some x), gI (X9 (((i : Nat) : Int) + 1)), gI (X9 (((i : Nat) : Int) + 2)), gI (X9 (((i : Nat) : Int) + 3) % 65536), gR (some out)] h (pr (gI k) Pw)) (MM : ∀ h1, Pw h1 → (∃ gs, h1 mo = some (gObj 8 gs)) ∧ GMet D yX8_putDate cX8_putDate 4 (some .int) [] dm 0 0 [gR (some mo), gI (X9 (((i : Nat) : Int) + 1)), gI (X9 (((i : Nat) : Int) + 2)), gI (X9 (((i : Nat) : Int) + 3) % 65536)] h1 (pr (gI r) Pm)) (MT : ∀ h2, Pm h2 → (∃ gs, h2 mo = some (gObj 8 gs)) ∧ GMet D yX8_thrown cX8_thrown 1 (some .int) [] 1 0 0 [gR (some mo)] h2 (pr (gI k) (fun h3 => h3 = h2))) (MC : k = 0 → ∀ h2, Pm h2 → ∃ g, h2 out = some (gArrL 3 1 g) ∧ g 0 = r) (hk : -2147483648 ≤ k ∧ k < 2147483648) (hr : -2147483648 ≤ r ∧ r < 2147483648) (hdw : dw < 2048) (hdm : dm < 2048) (ha : a + mcw ≤ mc) (hb : b + msw ≤ ms) (kk : ∀ (h2 : GH) (l7 : Option GV), Pm h2 → K 2074 [some (gR (some b0)), some (gR (some x)), some (gR (some mo)), some (gR (some out)), some (gR (some od)), some (gI i), some (gI k), l7] [] h2 (a + mcw) (b + msw)) : K 707 [some (gR (some b0)), some (gR (some x)), some (gR (some mo)), some (gR (some out)), some (gR (some od)), some (gI i), l6, l7] [] h a b := by
  refine k_aload_n S.1 dL_law_707 rfl ?_
  refine k_aload_n S.1 dL_law_708 rfl ?_
  refine k_iload S.1 dL_law_709 rfl ?_
  refine k_iconst S.1 dL_law_711 ?_
  refine k_iadd S.1 dL_law_712 ?_
  refine S.2.1 dL_law_713 (by omega) ?_
  refine k_aload_n S.1 dL_law_714 rfl ?_
  refine k_iload S.1 dL_law_715 rfl ?_
  refine k_iconst S.1 dL_law_717 ?_
  refine k_iadd S.1 dL_law_718 ?_
  refine S.2.1 dL_law_719 (by omega) ?_
  refine k_aload_n S.1 dL_law_720 rfl ?_
  refine k_iload S.1 dL_law_721 rfl ?_
  refine k_iconst S.1 dL_law_723 ?_
  refine k_iadd S.1 dL_law_724 ?_
  refine S.2.1 dL_law_725 (by omega) ?_
  refine k_i2c S.1 dL_law_726 ?_
  refine k_aload_n S.1 dL_law_727 rfl ?_
  refine k_callS_r S.1 dL_law_728 s_L_153 MW (fun h728 hp728 => ?_) rfl rfl (by omega) (by omega) (by omega) (Nat.le_of_ble_eq_true rfl)
  obtain ⟨⟨gs, hm⟩, MM⟩ := MM h728 hp728
  refine k_istore S.1 dL_law_731 (by decide) ?_
  refine k_aload_n S.1 dL_law_733 rfl ?_
  refine k_aload_n S.1 dL_law_734 rfl ?_
  refine k_iload S.1 dL_law_735 rfl ?_
  refine k_iconst S.1 dL_law_737 ?_
  refine k_iadd S.1 dL_law_738 ?_
  refine S.2.1 dL_law_739 (by omega) ?_
  refine k_aload_n S.1 dL_law_740 rfl ?_
  refine k_iload S.1 dL_law_741 rfl ?_
  refine k_iconst S.1 dL_law_743 ?_
  refine k_iadd S.1 dL_law_744 ?_
  refine S.2.1 dL_law_745 (by omega) ?_
  refine k_aload_n S.1 dL_law_746 rfl ?_
  refine k_iload S.1 dL_law_747 rfl ?_
  refine k_iconst S.1 dL_law_749 ?_
  refine k_iadd S.1 dL_law_750 ?_
  refine S.2.1 dL_law_751 (by omega) ?_
  refine k_i2c S.1 dL_law_752 ?_
  refine k_callV_r S.1 dL_law_753 v_L_156 MM (by assumption) (fun h753 hp753 => ?_) rfl rfl (by omega) (by omega) (by omega) (Nat.le_of_ble_eq_true rfl)
  obtain ⟨⟨gs2, hm2⟩, MT⟩ := MT h753 hp753
  refine k_istore S.1 dL_law_756 (by decide) ?_
  refine k_aload_n S.1 dL_law_758 rfl ?_
  refine k_callV_r S.1 dL_law_759 v_L_127 MT (by assumption) (fun h759 hp759 => ?_) rfl rfl (by omega) (by omega) (by omega) (Nat.le_of_ble_eq_true rfl)
  rw [hp759]
  refine k_iload S.1 dL_law_762 rfl ?_
  refine k_icmp_eq (tgt := 769) S.1 dL_law_764 (by decide) hk hk (fun c764 => ?_) (fun c764 => ?_)
  · refine k_iload S.1 dL_law_769 rfl ?_
    refine k_if_ne (tgt := 786) S.1 dL_law_771 (by decide) hk (fun c771 => ?_) (fun c771 => ?_)
    · refine k_goto (tgt := 2074) S.1 dL_law_786 (by decide) ?_
      exact kk _ _ hp753
    · obtain ⟨g, hg, g0⟩ := MC (by omega) h753 hp753
      refine k_aload_n S.1 dL_law_774 rfl ?_
      refine k_iconst S.1 dL_law_775 ?_
      refine k_laload S.1 dL_law_776 hg (by omega) ?_
      refine k_iload S.1 dL_law_777 rfl ?_
      refine k_i2l S.1 dL_law_779 hr ?_
      refine k_lcmp S.1 dL_law_780 (by rw [show ((0 : Int)).toNat = 0 from rfl, g0]; omega) (by omega) ?_
      rw [show ((0 : Int)).toNat = 0 from rfl, g0, if_neg (by omega), if_pos rfl]
      refine k_if_eq (tgt := 786) S.1 dL_law_781 (by decide) (by omega) (fun c781 => ?_) (fun c781 => ?_)
      · refine k_goto (tgt := 2074) S.1 dL_law_786 (by decide) ?_
        exact kk _ _ hp753
      · exact absurd rfl c781
  · exact absurd rfl c764
/-- putStop -/
theorem r_putStop (S : LWk K KX D mc ms b0 L X9) {i : Nat} (hi : (i : Int) + 4 ≤ L) {h : GH} {x mo out od a b : Nat} {l6 l7 : Option GV} {fs : List GV} (hx : h x = some (gObj 7 fs)) {k r : Int} {dw mcw msw dm : Nat} {Pw Pm : GH → Prop} (MW : GMet D yL_putStop cL_putStop 4 (some .int) [(0, 9, 12, 19), (0, 9, 15, 13)] dw mcw msw [gR (some x), gI (X9 (((i : Nat) : Int) + 1)), gR (some out)] h (pr (gI k) Pw)) (MM : ∀ h1, Pw h1 → (∃ gs, h1 mo = some (gObj 8 gs)) ∧ GMet D yX8_putStop cX8_putStop 2 (some .int) [] dm 0 0 [gR (some mo), gI (X9 (((i : Nat) : Int) + 1))] h1 (pr (gI r) Pm)) (MT : ∀ h2, Pm h2 → (∃ gs, h2 mo = some (gObj 8 gs)) ∧ GMet D yX8_thrown cX8_thrown 1 (some .int) [] 1 0 0 [gR (some mo)] h2 (pr (gI k) (fun h3 => h3 = h2))) (MC : k = 0 → ∀ h2, Pm h2 → ∃ g, h2 out = some (gArrL 3 1 g) ∧ g 0 = r) (hk : -2147483648 ≤ k ∧ k < 2147483648) (hr : -2147483648 ≤ r ∧ r < 2147483648) (hdw : dw < 2048) (hdm : dm < 2048) (ha : a + mcw ≤ mc) (hb : b + msw ≤ ms) (kk : ∀ (h2 : GH) (l7 : Option GV), Pm h2 → K 2074 [some (gR (some b0)), some (gR (some x)), some (gR (some mo)), some (gR (some out)), some (gR (some od)), some (gI i), some (gI k), l7] [] h2 (a + mcw) (b + msw)) : K 789 [some (gR (some b0)), some (gR (some x)), some (gR (some mo)), some (gR (some out)), some (gR (some od)), some (gI i), l6, l7] [] h a b := by
  refine k_aload_n S.1 dL_law_789 rfl ?_
  refine k_aload_n S.1 dL_law_790 rfl ?_
  refine k_iload S.1 dL_law_791 rfl ?_
  refine k_iconst S.1 dL_law_793 ?_
  refine k_iadd S.1 dL_law_794 ?_
  refine S.2.1 dL_law_795 (by omega) ?_
  refine k_aload_n S.1 dL_law_796 rfl ?_
  refine k_callS_r S.1 dL_law_797 s_L_157 MW (fun h797 hp797 => ?_) rfl rfl (by omega) (by omega) (by omega) (Nat.le_of_ble_eq_true rfl)
  obtain ⟨⟨gs, hm⟩, MM⟩ := MM h797 hp797
  refine k_istore S.1 dL_law_800 (by decide) ?_
  refine k_aload_n S.1 dL_law_802 rfl ?_
  refine k_aload_n S.1 dL_law_803 rfl ?_
  refine k_iload S.1 dL_law_804 rfl ?_
  refine k_iconst S.1 dL_law_806 ?_
  refine k_iadd S.1 dL_law_807 ?_
  refine S.2.1 dL_law_808 (by omega) ?_
  refine k_callV_r S.1 dL_law_809 v_L_159 MM (by assumption) (fun h809 hp809 => ?_) rfl rfl (by omega) (by omega) (by omega) (Nat.le_of_ble_eq_true rfl)
  obtain ⟨⟨gs2, hm2⟩, MT⟩ := MT h809 hp809
  refine k_istore S.1 dL_law_812 (by decide) ?_
  refine k_aload_n S.1 dL_law_814 rfl ?_
  refine k_callV_r S.1 dL_law_815 v_L_127 MT (by assumption) (fun h815 hp815 => ?_) rfl rfl (by omega) (by omega) (by omega) (Nat.le_of_ble_eq_true rfl)
  rw [hp815]
  refine k_iload S.1 dL_law_818 rfl ?_
  refine k_icmp_eq (tgt := 825) S.1 dL_law_820 (by decide) hk hk (fun c820 => ?_) (fun c820 => ?_)
  · refine k_iload S.1 dL_law_825 rfl ?_
    refine k_if_ne (tgt := 842) S.1 dL_law_827 (by decide) hk (fun c827 => ?_) (fun c827 => ?_)
    · refine k_goto (tgt := 2074) S.1 dL_law_842 (by decide) ?_
      exact kk _ _ hp809
    · obtain ⟨g, hg, g0⟩ := MC (by omega) h809 hp809
      refine k_aload_n S.1 dL_law_830 rfl ?_
      refine k_iconst S.1 dL_law_831 ?_
      refine k_laload S.1 dL_law_832 hg (by omega) ?_
      refine k_iload S.1 dL_law_833 rfl ?_
      refine k_i2l S.1 dL_law_835 hr ?_
      refine k_lcmp S.1 dL_law_836 (by rw [show ((0 : Int)).toNat = 0 from rfl, g0]; omega) (by omega) ?_
      rw [show ((0 : Int)).toNat = 0 from rfl, g0, if_neg (by omega), if_pos rfl]
      refine k_if_eq (tgt := 842) S.1 dL_law_837 (by decide) (by omega) (fun c837 => ?_) (fun c837 => ?_)
      · refine k_goto (tgt := 2074) S.1 dL_law_842 (by decide) ?_
        exact kk _ _ hp809
      · exact absurd rfl c837
  · exact absurd rfl c820
/-- clearBody -/
theorem r_clearBody (S : LWk K KX D mc ms b0 L X9) {i : Nat} (hi : (i : Int) + 4 ≤ L) {h : GH} {x mo out od a b : Nat} {l6 l7 : Option GV} {fs : List GV} (hx : h x = some (gObj 7 fs)) {k r : Int} {dw mcw msw dm : Nat} {Pw Pm : GH → Prop} (MW : GMet D yL_clearBody cL_clearBody 4 (some .int) [(0, 9, 12, 19)] dw mcw msw [gR (some x), gI (X9 (((i : Nat) : Int) + 1)), gR (some out)] h (pr (gI k) Pw)) (MM : ∀ h1, Pw h1 → (∃ gs, h1 mo = some (gObj 8 gs)) ∧ GMet D yX8_clearBody cX8_clearBody 3 (some .int) [] dm 0 0 [gR (some mo), gI (X9 (((i : Nat) : Int) + 1))] h1 (pr (gI r) Pm)) (MT : ∀ h2, Pm h2 → (∃ gs, h2 mo = some (gObj 8 gs)) ∧ GMet D yX8_thrown cX8_thrown 1 (some .int) [] 1 0 0 [gR (some mo)] h2 (pr (gI k) (fun h3 => h3 = h2))) (MC : k = 0 → ∀ h2, Pm h2 → ∃ g, h2 out = some (gArrL 3 1 g) ∧ g 0 = r) (hk : -2147483648 ≤ k ∧ k < 2147483648) (hr : -2147483648 ≤ r ∧ r < 2147483648) (hdw : dw < 2048) (hdm : dm < 2048) (ha : a + mcw ≤ mc) (hb : b + msw ≤ ms) (kk : ∀ (h2 : GH) (l7 : Option GV), Pm h2 → K 2074 [some (gR (some b0)), some (gR (some x)), some (gR (some mo)), some (gR (some out)), some (gR (some od)), some (gI i), some (gI k), l7] [] h2 (a + mcw) (b + msw)) : K 845 [some (gR (some b0)), some (gR (some x)), some (gR (some mo)), some (gR (some out)), some (gR (some od)), some (gI i), l6, l7] [] h a b := by
  refine k_aload_n S.1 dL_law_845 rfl ?_
  refine k_aload_n S.1 dL_law_846 rfl ?_
  refine k_iload S.1 dL_law_847 rfl ?_
  refine k_iconst S.1 dL_law_849 ?_
  refine k_iadd S.1 dL_law_850 ?_
  refine S.2.1 dL_law_851 (by omega) ?_
  refine k_aload_n S.1 dL_law_852 rfl ?_
  refine k_callS_r S.1 dL_law_853 s_L_160 MW (fun h853 hp853 => ?_) rfl rfl (by omega) (by omega) (by omega) (Nat.le_of_ble_eq_true rfl)
  obtain ⟨⟨gs, hm⟩, MM⟩ := MM h853 hp853
  refine k_istore S.1 dL_law_856 (by decide) ?_
  refine k_aload_n S.1 dL_law_858 rfl ?_
  refine k_aload_n S.1 dL_law_859 rfl ?_
  refine k_iload S.1 dL_law_860 rfl ?_
  refine k_iconst S.1 dL_law_862 ?_
  refine k_iadd S.1 dL_law_863 ?_
  refine S.2.1 dL_law_864 (by omega) ?_
  refine k_callV_r S.1 dL_law_865 v_L_162 MM (by assumption) (fun h865 hp865 => ?_) rfl rfl (by omega) (by omega) (by omega) (Nat.le_of_ble_eq_true rfl)
  obtain ⟨⟨gs2, hm2⟩, MT⟩ := MT h865 hp865
  refine k_istore S.1 dL_law_868 (by decide) ?_
  refine k_aload_n S.1 dL_law_870 rfl ?_
  refine k_callV_r S.1 dL_law_871 v_L_127 MT (by assumption) (fun h871 hp871 => ?_) rfl rfl (by omega) (by omega) (by omega) (Nat.le_of_ble_eq_true rfl)
  rw [hp871]
  refine k_iload S.1 dL_law_874 rfl ?_
  refine k_icmp_eq (tgt := 881) S.1 dL_law_876 (by decide) hk hk (fun c876 => ?_) (fun c876 => ?_)
  · refine k_iload S.1 dL_law_881 rfl ?_
    refine k_if_ne (tgt := 898) S.1 dL_law_883 (by decide) hk (fun c883 => ?_) (fun c883 => ?_)
    · refine k_goto (tgt := 2074) S.1 dL_law_898 (by decide) ?_
      exact kk _ _ hp865
    · obtain ⟨g, hg, g0⟩ := MC (by omega) h865 hp865
      refine k_aload_n S.1 dL_law_886 rfl ?_
      refine k_iconst S.1 dL_law_887 ?_
      refine k_laload S.1 dL_law_888 hg (by omega) ?_
      refine k_iload S.1 dL_law_889 rfl ?_
      refine k_i2l S.1 dL_law_891 hr ?_
      refine k_lcmp S.1 dL_law_892 (by rw [show ((0 : Int)).toNat = 0 from rfl, g0]; omega) (by omega) ?_
      rw [show ((0 : Int)).toNat = 0 from rfl, g0, if_neg (by omega), if_pos rfl]
      refine k_if_eq (tgt := 898) S.1 dL_law_893 (by decide) (by omega) (fun c893 => ?_) (fun c893 => ?_)
      · refine k_goto (tgt := 2074) S.1 dL_law_898 (by decide) ?_
        exact kk _ _ hp865
      · exact absurd rfl c893
  · exact absurd rfl c876
/-- choose -/
theorem r_choose (S : LWk K KX D mc ms b0 L X9) {i : Nat} (hi : (i : Int) + 4 ≤ L) {h : GH} {x mo out od a b : Nat} {l6 l7 : Option GV} {fs : List GV} (hx : h x = some (gObj 7 fs)) {k r : Int} {dw mcw msw dm : Nat} {Pw Pm : GH → Prop} (MW : GMet D yL_choose cL_choose 5 (some .int) [(0, 17, 20, 19)] dw mcw msw [gR (some x), gI (X9 (((i : Nat) : Int) + 1)), gI (zB (X9 (((i : Nat) : Int) + 2))), gR (some out)] h (pr (gI k) Pw)) (MM : ∀ h1, Pw h1 → (∃ gs, h1 mo = some (gObj 8 gs)) ∧ GMet D yX8_choose cX8_choose 4 (some .boolean) [] dm 0 0 [gR (some mo), gI (X9 (((i : Nat) : Int) + 1)), gI (zB (X9 (((i : Nat) : Int) + 2)))] h1 (pr (gI r) Pm)) (MT : ∀ h2, Pm h2 → (∃ gs, h2 mo = some (gObj 8 gs)) ∧ GMet D yX8_thrown cX8_thrown 1 (some .int) [] 1 0 0 [gR (some mo)] h2 (pr (gI k) (fun h3 => h3 = h2))) (MC : k = 0 → ∀ h2, Pm h2 → ∃ g, h2 out = some (gArrL 3 1 g) ∧ g 0 = r) (hk : -2147483648 ≤ k ∧ k < 2147483648) (hr : -2147483648 ≤ r ∧ r < 2147483648) (hr2 : r = 0 ∨ r = 1) (hdw : dw < 2048) (hdm : dm < 2048) (ha : a + mcw ≤ mc) (hb : b + msw ≤ ms) (kk : ∀ (h2 : GH) (l7 : Option GV), Pm h2 → K 2074 [some (gR (some b0)), some (gR (some x)), some (gR (some mo)), some (gR (some out)), some (gR (some od)), some (gI i), some (gI k), l7] [] h2 (a + mcw) (b + msw)) : K 901 [some (gR (some b0)), some (gR (some x)), some (gR (some mo)), some (gR (some out)), some (gR (some od)), some (gI i), l6, l7] [] h a b := by
  by_cases c9 : X9 (((i : Nat) : Int) + 2) = 0
  · have ez : zB (X9 (((i : Nat) : Int) + 2)) = 0 := if_pos c9
    simp only [ez] at MW MM
    refine k_aload_n S.1 dL_law_901 rfl ?_
    refine k_aload_n S.1 dL_law_902 rfl ?_
    refine k_iload S.1 dL_law_903 rfl ?_
    refine k_iconst S.1 dL_law_905 ?_
    refine k_iadd S.1 dL_law_906 ?_
    refine S.2.1 dL_law_907 (by omega) ?_
    refine k_aload_n S.1 dL_law_908 rfl ?_
    refine k_iload S.1 dL_law_909 rfl ?_
    refine k_iconst S.1 dL_law_911 ?_
    refine k_iadd S.1 dL_law_912 ?_
    refine S.2.1 dL_law_913 (by omega) ?_
    refine k_if_eq (tgt := 921) S.1 dL_law_914 (by decide) (S.2.2.2 _) (fun c914 => ?_) (fun c914 => ?_)
    · refine k_iconst S.1 dL_law_921 ?_
      refine k_aload_n S.1 dL_law_922 rfl ?_
      refine k_callS_r S.1 dL_law_923 s_L_163 MW (fun h923 hp923 => ?_) rfl rfl (by omega) (by omega) (by omega) (Nat.le_of_ble_eq_true rfl)
      obtain ⟨⟨gs, hm⟩, MM⟩ := MM h923 hp923
      refine k_istore S.1 dL_law_926 (by decide) ?_
      refine k_aload_n S.1 dL_law_928 rfl ?_
      refine k_aload_n S.1 dL_law_929 rfl ?_
      refine k_iload S.1 dL_law_930 rfl ?_
      refine k_iconst S.1 dL_law_932 ?_
      refine k_iadd S.1 dL_law_933 ?_
      refine S.2.1 dL_law_934 (by omega) ?_
      refine k_aload_n S.1 dL_law_935 rfl ?_
      refine k_iload S.1 dL_law_936 rfl ?_
      refine k_iconst S.1 dL_law_938 ?_
      refine k_iadd S.1 dL_law_939 ?_
      refine S.2.1 dL_law_940 (by omega) ?_
      refine k_if_eq (tgt := 948) S.1 dL_law_941 (by decide) (S.2.2.2 _) (fun c941 => ?_) (fun c941 => ?_)
      · refine k_iconst S.1 dL_law_948 ?_
        refine k_callV_r S.1 dL_law_949 v_L_165 MM (by assumption) (fun h949 hp949 => ?_) rfl rfl (by omega) (by omega) (by omega) (Nat.le_of_ble_eq_true rfl)
        obtain ⟨⟨gs2, hm2⟩, MT⟩ := MT h949 hp949
        refine k_istore S.1 dL_law_952 (by decide) ?_
        refine k_aload_n S.1 dL_law_954 rfl ?_
        refine k_callV_r S.1 dL_law_955 v_L_127 MT (by assumption) (fun h955 hp955 => ?_) rfl rfl (by omega) (by omega) (by omega) (Nat.le_of_ble_eq_true rfl)
        rw [hp955]
        refine k_iload S.1 dL_law_958 rfl ?_
        refine k_icmp_eq (tgt := 965) S.1 dL_law_960 (by decide) hk hk (fun c960 => ?_) (fun c960 => ?_)
        · refine k_iload S.1 dL_law_965 rfl ?_
          refine k_if_ne (tgt := 989) S.1 dL_law_967 (by decide) hk (fun c967 => ?_) (fun c967 => ?_)
          · refine k_goto (tgt := 2074) S.1 dL_law_989 (by decide) ?_
            exact kk _ _ hp949
          · obtain ⟨g, hg, g0⟩ := MC (by omega) h949 hp949
            refine k_aload_n S.1 dL_law_970 rfl ?_
            refine k_iconst S.1 dL_law_971 ?_
            refine k_laload S.1 dL_law_972 hg (by omega) ?_
            refine k_iload S.1 dL_law_973 rfl ?_
            refine k_if_eq (tgt := 982) S.1 dL_law_975 (by decide) hr (fun c975 => ?_) (fun c975 => ?_)
            · refine k_lconst S.1 (v := 0) rfl dL_law_982 ?_
              refine k_lcmp S.1 dL_law_983 (by rw [show ((0 : Int)).toNat = 0 from rfl, g0]; omega) (by omega) ?_
              rw [show ((0 : Int)).toNat = 0 from rfl, g0, if_neg (by omega), if_pos (by omega)]
              refine k_if_eq (tgt := 989) S.1 dL_law_984 (by decide) (by omega) (fun c984 => ?_) (fun c984 => ?_)
              · refine k_goto (tgt := 2074) S.1 dL_law_989 (by decide) ?_
                exact kk _ _ hp949
              · exact absurd rfl c984
            · refine k_lconst S.1 (v := 1) rfl dL_law_978 ?_
              refine k_goto (tgt := 983) S.1 dL_law_979 (by decide) ?_
              refine k_lcmp S.1 dL_law_983 (by rw [show ((0 : Int)).toNat = 0 from rfl, g0]; omega) (by omega) ?_
              rw [show ((0 : Int)).toNat = 0 from rfl, g0, if_neg (by omega), if_pos (by omega)]
              refine k_if_eq (tgt := 989) S.1 dL_law_984 (by decide) (by omega) (fun c984 => ?_) (fun c984 => ?_)
              · refine k_goto (tgt := 2074) S.1 dL_law_989 (by decide) ?_
                exact kk _ _ hp949
              · exact absurd rfl c984
        · exact absurd rfl c960
      · exact absurd c9 c941
    · exact absurd c9 c914
  · have ez : zB (X9 (((i : Nat) : Int) + 2)) = 1 := if_neg c9
    simp only [ez] at MW MM
    refine k_aload_n S.1 dL_law_901 rfl ?_
    refine k_aload_n S.1 dL_law_902 rfl ?_
    refine k_iload S.1 dL_law_903 rfl ?_
    refine k_iconst S.1 dL_law_905 ?_
    refine k_iadd S.1 dL_law_906 ?_
    refine S.2.1 dL_law_907 (by omega) ?_
    refine k_aload_n S.1 dL_law_908 rfl ?_
    refine k_iload S.1 dL_law_909 rfl ?_
    refine k_iconst S.1 dL_law_911 ?_
    refine k_iadd S.1 dL_law_912 ?_
    refine S.2.1 dL_law_913 (by omega) ?_
    refine k_if_eq (tgt := 921) S.1 dL_law_914 (by decide) (S.2.2.2 _) (fun c914 => ?_) (fun c914 => ?_)
    · exact absurd c914 c9
    · refine k_iconst S.1 dL_law_917 ?_
      refine k_goto (tgt := 922) S.1 dL_law_918 (by decide) ?_
      refine k_aload_n S.1 dL_law_922 rfl ?_
      refine k_callS_r S.1 dL_law_923 s_L_163 MW (fun h923 hp923 => ?_) rfl rfl (by omega) (by omega) (by omega) (Nat.le_of_ble_eq_true rfl)
      obtain ⟨⟨gs, hm⟩, MM⟩ := MM h923 hp923
      refine k_istore S.1 dL_law_926 (by decide) ?_
      refine k_aload_n S.1 dL_law_928 rfl ?_
      refine k_aload_n S.1 dL_law_929 rfl ?_
      refine k_iload S.1 dL_law_930 rfl ?_
      refine k_iconst S.1 dL_law_932 ?_
      refine k_iadd S.1 dL_law_933 ?_
      refine S.2.1 dL_law_934 (by omega) ?_
      refine k_aload_n S.1 dL_law_935 rfl ?_
      refine k_iload S.1 dL_law_936 rfl ?_
      refine k_iconst S.1 dL_law_938 ?_
      refine k_iadd S.1 dL_law_939 ?_
      refine S.2.1 dL_law_940 (by omega) ?_
      refine k_if_eq (tgt := 948) S.1 dL_law_941 (by decide) (S.2.2.2 _) (fun c941 => ?_) (fun c941 => ?_)
      · exact absurd c941 c9
      · refine k_iconst S.1 dL_law_944 ?_
        refine k_goto (tgt := 949) S.1 dL_law_945 (by decide) ?_
        refine k_callV_r S.1 dL_law_949 v_L_165 MM (by assumption) (fun h949 hp949 => ?_) rfl rfl (by omega) (by omega) (by omega) (Nat.le_of_ble_eq_true rfl)
        obtain ⟨⟨gs2, hm2⟩, MT⟩ := MT h949 hp949
        refine k_istore S.1 dL_law_952 (by decide) ?_
        refine k_aload_n S.1 dL_law_954 rfl ?_
        refine k_callV_r S.1 dL_law_955 v_L_127 MT (by assumption) (fun h955 hp955 => ?_) rfl rfl (by omega) (by omega) (by omega) (Nat.le_of_ble_eq_true rfl)
        rw [hp955]
        refine k_iload S.1 dL_law_958 rfl ?_
        refine k_icmp_eq (tgt := 965) S.1 dL_law_960 (by decide) hk hk (fun c960 => ?_) (fun c960 => ?_)
        · refine k_iload S.1 dL_law_965 rfl ?_
          refine k_if_ne (tgt := 989) S.1 dL_law_967 (by decide) hk (fun c967 => ?_) (fun c967 => ?_)
          · refine k_goto (tgt := 2074) S.1 dL_law_989 (by decide) ?_
            exact kk _ _ hp949
          · obtain ⟨g, hg, g0⟩ := MC (by omega) h949 hp949
            refine k_aload_n S.1 dL_law_970 rfl ?_
            refine k_iconst S.1 dL_law_971 ?_
            refine k_laload S.1 dL_law_972 hg (by omega) ?_
            refine k_iload S.1 dL_law_973 rfl ?_
            refine k_if_eq (tgt := 982) S.1 dL_law_975 (by decide) hr (fun c975 => ?_) (fun c975 => ?_)
            · refine k_lconst S.1 (v := 0) rfl dL_law_982 ?_
              refine k_lcmp S.1 dL_law_983 (by rw [show ((0 : Int)).toNat = 0 from rfl, g0]; omega) (by omega) ?_
              rw [show ((0 : Int)).toNat = 0 from rfl, g0, if_neg (by omega), if_pos (by omega)]
              refine k_if_eq (tgt := 989) S.1 dL_law_984 (by decide) (by omega) (fun c984 => ?_) (fun c984 => ?_)
              · refine k_goto (tgt := 2074) S.1 dL_law_989 (by decide) ?_
                exact kk _ _ hp949
              · exact absurd rfl c984
            · refine k_lconst S.1 (v := 1) rfl dL_law_978 ?_
              refine k_goto (tgt := 983) S.1 dL_law_979 (by decide) ?_
              refine k_lcmp S.1 dL_law_983 (by rw [show ((0 : Int)).toNat = 0 from rfl, g0]; omega) (by omega) ?_
              rw [show ((0 : Int)).toNat = 0 from rfl, g0, if_neg (by omega), if_pos (by omega)]
              refine k_if_eq (tgt := 989) S.1 dL_law_984 (by decide) (by omega) (fun c984 => ?_) (fun c984 => ?_)
              · refine k_goto (tgt := 2074) S.1 dL_law_989 (by decide) ?_
                exact kk _ _ hp949
              · exact absurd rfl c984
        · exact absurd rfl c960
/-- setToday -/
theorem r_setToday (S : LWk K KX D mc ms b0 L X9) {i : Nat} (hi : (i : Int) + 4 ≤ L) {h : GH} {x mo out od a b : Nat} {l6 l7 : Option GV} {fs : List GV} (hx : h x = some (gObj 7 fs)) {k r : Int} {dw mcw msw dm : Nat} {Pw Pm : GH → Prop} (MW : GMet D yL_setToday cL_setToday 4 (some .int) [(0, 9, 12, 21)] dw mcw msw [gR (some x), gI (X9 (((i : Nat) : Int) + 1)), gR (some out)] h (pr (gI k) Pw)) (MM : ∀ h1, Pw h1 → (∃ gs, h1 mo = some (gObj 8 gs)) ∧ GMet D yX8_setToday cX8_setToday 3 (some .int) [] dm 0 0 [gR (some mo), gI (X9 (((i : Nat) : Int) + 1))] h1 (pr (gI r) Pm)) (MT : ∀ h2, Pm h2 → (∃ gs, h2 mo = some (gObj 8 gs)) ∧ GMet D yX8_thrown cX8_thrown 1 (some .int) [] 1 0 0 [gR (some mo)] h2 (pr (gI k) (fun h3 => h3 = h2))) (MC : k = 0 → ∀ h2, Pm h2 → ∃ g, h2 out = some (gArrL 3 1 g) ∧ g 0 = r) (hk : -2147483648 ≤ k ∧ k < 2147483648) (hr : -2147483648 ≤ r ∧ r < 2147483648) (hdw : dw < 2048) (hdm : dm < 2048) (ha : a + mcw ≤ mc) (hb : b + msw ≤ ms) (kk : ∀ (h2 : GH) (l7 : Option GV), Pm h2 → K 2074 [some (gR (some b0)), some (gR (some x)), some (gR (some mo)), some (gR (some out)), some (gR (some od)), some (gI i), some (gI k), l7] [] h2 (a + mcw) (b + msw)) : K 992 [some (gR (some b0)), some (gR (some x)), some (gR (some mo)), some (gR (some out)), some (gR (some od)), some (gI i), l6, l7] [] h a b := by
  refine k_aload_n S.1 dL_law_992 rfl ?_
  refine k_aload_n S.1 dL_law_993 rfl ?_
  refine k_iload S.1 dL_law_994 rfl ?_
  refine k_iconst S.1 dL_law_996 ?_
  refine k_iadd S.1 dL_law_997 ?_
  refine S.2.1 dL_law_998 (by omega) ?_
  refine k_aload_n S.1 dL_law_999 rfl ?_
  refine k_callS_r S.1 dL_law_1000 s_L_166 MW (fun h1000 hp1000 => ?_) rfl rfl (by omega) (by omega) (by omega) (Nat.le_of_ble_eq_true rfl)
  obtain ⟨⟨gs, hm⟩, MM⟩ := MM h1000 hp1000
  refine k_istore S.1 dL_law_1003 (by decide) ?_
  refine k_aload_n S.1 dL_law_1005 rfl ?_
  refine k_aload_n S.1 dL_law_1006 rfl ?_
  refine k_iload S.1 dL_law_1007 rfl ?_
  refine k_iconst S.1 dL_law_1009 ?_
  refine k_iadd S.1 dL_law_1010 ?_
  refine S.2.1 dL_law_1011 (by omega) ?_
  refine k_callV_r S.1 dL_law_1012 v_L_168 MM (by assumption) (fun h1012 hp1012 => ?_) rfl rfl (by omega) (by omega) (by omega) (Nat.le_of_ble_eq_true rfl)
  obtain ⟨⟨gs2, hm2⟩, MT⟩ := MT h1012 hp1012
  refine k_istore S.1 dL_law_1015 (by decide) ?_
  refine k_aload_n S.1 dL_law_1017 rfl ?_
  refine k_callV_r S.1 dL_law_1018 v_L_127 MT (by assumption) (fun h1018 hp1018 => ?_) rfl rfl (by omega) (by omega) (by omega) (Nat.le_of_ble_eq_true rfl)
  rw [hp1018]
  refine k_iload S.1 dL_law_1021 rfl ?_
  refine k_icmp_eq (tgt := 1028) S.1 dL_law_1023 (by decide) hk hk (fun c1023 => ?_) (fun c1023 => ?_)
  · refine k_iload S.1 dL_law_1028 rfl ?_
    refine k_if_ne (tgt := 1045) S.1 dL_law_1030 (by decide) hk (fun c1030 => ?_) (fun c1030 => ?_)
    · refine k_goto (tgt := 2074) S.1 dL_law_1045 (by decide) ?_
      exact kk _ _ hp1012
    · obtain ⟨g, hg, g0⟩ := MC (by omega) h1012 hp1012
      refine k_aload_n S.1 dL_law_1033 rfl ?_
      refine k_iconst S.1 dL_law_1034 ?_
      refine k_laload S.1 dL_law_1035 hg (by omega) ?_
      refine k_iload S.1 dL_law_1036 rfl ?_
      refine k_i2l S.1 dL_law_1038 hr ?_
      refine k_lcmp S.1 dL_law_1039 (by rw [show ((0 : Int)).toNat = 0 from rfl, g0]; omega) (by omega) ?_
      rw [show ((0 : Int)).toNat = 0 from rfl, g0, if_neg (by omega), if_pos rfl]
      refine k_if_eq (tgt := 1045) S.1 dL_law_1040 (by decide) (by omega) (fun c1040 => ?_) (fun c1040 => ?_)
      · refine k_goto (tgt := 2074) S.1 dL_law_1045 (by decide) ?_
        exact kk _ _ hp1012
      · exact absurd rfl c1040
  · exact absurd rfl c1023
/-- lengthOf -/
theorem r_lengthOf (S : LWk K KX D mc ms b0 L X9) {i : Nat} (hi : (i : Int) + 4 ≤ L) {h : GH} {x mo out od a b : Nat} {l6 l7 : Option GV} {fs : List GV} (hx : h x = some (gObj 7 fs)) {k r : Int} {dw mcw msw dm : Nat} {Pw Pm : GH → Prop} (MW : GMet D yL_lengthOf cL_lengthOf 4 (some .int) [(0, 9, 12, 19)] dw mcw msw [gR (some x), gI (X9 (((i : Nat) : Int) + 1)), gR (some out)] h (pr (gI k) Pw)) (MM : ∀ h1, Pw h1 → (∃ gs, h1 mo = some (gObj 8 gs)) ∧ GMet D yX8_lengthOf cX8_lengthOf 2 (some .int) [] dm 0 0 [gR (some mo), gI (X9 (((i : Nat) : Int) + 1))] h1 (pr (gI r) Pm)) (MT : ∀ h2, Pm h2 → (∃ gs, h2 mo = some (gObj 8 gs)) ∧ GMet D yX8_thrown cX8_thrown 1 (some .int) [] 1 0 0 [gR (some mo)] h2 (pr (gI k) (fun h3 => h3 = h2))) (MC : k = 0 → ∀ h2, Pm h2 → ∃ g, h2 out = some (gArrL 3 1 g) ∧ g 0 = r) (hk : -2147483648 ≤ k ∧ k < 2147483648) (hr : -2147483648 ≤ r ∧ r < 2147483648) (hdw : dw < 2048) (hdm : dm < 2048) (ha : a + mcw ≤ mc) (hb : b + msw ≤ ms) (kk : ∀ (h2 : GH) (l7 : Option GV), Pm h2 → K 2074 [some (gR (some b0)), some (gR (some x)), some (gR (some mo)), some (gR (some out)), some (gR (some od)), some (gI i), some (gI k), l7] [] h2 (a + mcw) (b + msw)) : K 1048 [some (gR (some b0)), some (gR (some x)), some (gR (some mo)), some (gR (some out)), some (gR (some od)), some (gI i), l6, l7] [] h a b := by
  refine k_aload_n S.1 dL_law_1048 rfl ?_
  refine k_aload_n S.1 dL_law_1049 rfl ?_
  refine k_iload S.1 dL_law_1050 rfl ?_
  refine k_iconst S.1 dL_law_1052 ?_
  refine k_iadd S.1 dL_law_1053 ?_
  refine S.2.1 dL_law_1054 (by omega) ?_
  refine k_aload_n S.1 dL_law_1055 rfl ?_
  refine k_callS_r S.1 dL_law_1056 s_L_169 MW (fun h1056 hp1056 => ?_) rfl rfl (by omega) (by omega) (by omega) (Nat.le_of_ble_eq_true rfl)
  obtain ⟨⟨gs, hm⟩, MM⟩ := MM h1056 hp1056
  refine k_istore S.1 dL_law_1059 (by decide) ?_
  refine k_aload_n S.1 dL_law_1061 rfl ?_
  refine k_aload_n S.1 dL_law_1062 rfl ?_
  refine k_iload S.1 dL_law_1063 rfl ?_
  refine k_iconst S.1 dL_law_1065 ?_
  refine k_iadd S.1 dL_law_1066 ?_
  refine S.2.1 dL_law_1067 (by omega) ?_
  refine k_callV_r S.1 dL_law_1068 v_L_171 MM (by assumption) (fun h1068 hp1068 => ?_) rfl rfl (by omega) (by omega) (by omega) (Nat.le_of_ble_eq_true rfl)
  obtain ⟨⟨gs2, hm2⟩, MT⟩ := MT h1068 hp1068
  refine k_istore S.1 dL_law_1071 (by decide) ?_
  refine k_aload_n S.1 dL_law_1073 rfl ?_
  refine k_callV_r S.1 dL_law_1074 v_L_127 MT (by assumption) (fun h1074 hp1074 => ?_) rfl rfl (by omega) (by omega) (by omega) (Nat.le_of_ble_eq_true rfl)
  rw [hp1074]
  refine k_iload S.1 dL_law_1077 rfl ?_
  refine k_icmp_eq (tgt := 1084) S.1 dL_law_1079 (by decide) hk hk (fun c1079 => ?_) (fun c1079 => ?_)
  · refine k_iload S.1 dL_law_1084 rfl ?_
    refine k_if_ne (tgt := 1101) S.1 dL_law_1086 (by decide) hk (fun c1086 => ?_) (fun c1086 => ?_)
    · refine k_goto (tgt := 2074) S.1 dL_law_1101 (by decide) ?_
      exact kk _ _ hp1068
    · obtain ⟨g, hg, g0⟩ := MC (by omega) h1068 hp1068
      refine k_aload_n S.1 dL_law_1089 rfl ?_
      refine k_iconst S.1 dL_law_1090 ?_
      refine k_laload S.1 dL_law_1091 hg (by omega) ?_
      refine k_iload S.1 dL_law_1092 rfl ?_
      refine k_i2l S.1 dL_law_1094 hr ?_
      refine k_lcmp S.1 dL_law_1095 (by rw [show ((0 : Int)).toNat = 0 from rfl, g0]; omega) (by omega) ?_
      rw [show ((0 : Int)).toNat = 0 from rfl, g0, if_neg (by omega), if_pos rfl]
      refine k_if_eq (tgt := 1101) S.1 dL_law_1096 (by decide) (by omega) (fun c1096 => ?_) (fun c1096 => ?_)
      · refine k_goto (tgt := 2074) S.1 dL_law_1101 (by decide) ?_
        exact kk _ _ hp1068
      · exact absurd rfl c1096
  · exact absurd rfl c1079
/-- characterOf -/
theorem r_characterOf (S : LWk K KX D mc ms b0 L X9) {i : Nat} (hi : (i : Int) + 4 ≤ L) {h : GH} {x mo out od a b : Nat} {l6 l7 : Option GV} {fs : List GV} (hx : h x = some (gObj 7 fs)) {k r : Int} {dw mcw msw dm : Nat} {Pw Pm : GH → Prop} (MW : GMet D yL_characterOf cL_characterOf 5 (some .int) [(0, 10, 13, 19), (0, 10, 17, 67)] dw mcw msw [gR (some x), gI (X9 (((i : Nat) : Int) + 1)), gI (X9 (((i : Nat) : Int) + 2)), gR (some out)] h (pr (gI k) Pw)) (MM : ∀ h1, Pw h1 → (∃ gs, h1 mo = some (gObj 8 gs)) ∧ GMet D yX8_characterOf cX8_characterOf 3 (some .char) [] dm 0 0 [gR (some mo), gI (X9 (((i : Nat) : Int) + 1)), gI (X9 (((i : Nat) : Int) + 2))] h1 (pr (gI r) Pm)) (MT : ∀ h2, Pm h2 → (∃ gs, h2 mo = some (gObj 8 gs)) ∧ GMet D yX8_thrown cX8_thrown 1 (some .int) [] 1 0 0 [gR (some mo)] h2 (pr (gI k) (fun h3 => h3 = h2))) (MC : k = 0 → ∀ h2, Pm h2 → ∃ g, h2 out = some (gArrL 3 1 g) ∧ g 0 = r) (hk : -2147483648 ≤ k ∧ k < 2147483648) (hr : -2147483648 ≤ r ∧ r < 2147483648) (hdw : dw < 2048) (hdm : dm < 2048) (ha : a + mcw ≤ mc) (hb : b + msw ≤ ms) (kk : ∀ (h2 : GH) (l7 : Option GV), Pm h2 → K 2074 [some (gR (some b0)), some (gR (some x)), some (gR (some mo)), some (gR (some out)), some (gR (some od)), some (gI i), some (gI k), l7] [] h2 (a + mcw) (b + msw)) : K 1104 [some (gR (some b0)), some (gR (some x)), some (gR (some mo)), some (gR (some out)), some (gR (some od)), some (gI i), l6, l7] [] h a b := by
  refine k_aload_n S.1 dL_law_1104 rfl ?_
  refine k_aload_n S.1 dL_law_1105 rfl ?_
  refine k_iload S.1 dL_law_1106 rfl ?_
  refine k_iconst S.1 dL_law_1108 ?_
  refine k_iadd S.1 dL_law_1109 ?_
  refine S.2.1 dL_law_1110 (by omega) ?_
  refine k_aload_n S.1 dL_law_1111 rfl ?_
  refine k_iload S.1 dL_law_1112 rfl ?_
  refine k_iconst S.1 dL_law_1114 ?_
  refine k_iadd S.1 dL_law_1115 ?_
  refine S.2.1 dL_law_1116 (by omega) ?_
  refine k_aload_n S.1 dL_law_1117 rfl ?_
  refine k_callS_r S.1 dL_law_1118 s_L_172 MW (fun h1118 hp1118 => ?_) rfl rfl (by omega) (by omega) (by omega) (Nat.le_of_ble_eq_true rfl)
  obtain ⟨⟨gs, hm⟩, MM⟩ := MM h1118 hp1118
  refine k_istore S.1 dL_law_1121 (by decide) ?_
  refine k_aload_n S.1 dL_law_1123 rfl ?_
  refine k_aload_n S.1 dL_law_1124 rfl ?_
  refine k_iload S.1 dL_law_1125 rfl ?_
  refine k_iconst S.1 dL_law_1127 ?_
  refine k_iadd S.1 dL_law_1128 ?_
  refine S.2.1 dL_law_1129 (by omega) ?_
  refine k_aload_n S.1 dL_law_1130 rfl ?_
  refine k_iload S.1 dL_law_1131 rfl ?_
  refine k_iconst S.1 dL_law_1133 ?_
  refine k_iadd S.1 dL_law_1134 ?_
  refine S.2.1 dL_law_1135 (by omega) ?_
  refine k_callV_r S.1 dL_law_1136 v_L_174 MM (by assumption) (fun h1136 hp1136 => ?_) rfl rfl (by omega) (by omega) (by omega) (Nat.le_of_ble_eq_true rfl)
  obtain ⟨⟨gs2, hm2⟩, MT⟩ := MT h1136 hp1136
  refine k_istore S.1 dL_law_1139 (by decide) ?_
  refine k_aload_n S.1 dL_law_1141 rfl ?_
  refine k_callV_r S.1 dL_law_1142 v_L_127 MT (by assumption) (fun h1142 hp1142 => ?_) rfl rfl (by omega) (by omega) (by omega) (Nat.le_of_ble_eq_true rfl)
  rw [hp1142]
  refine k_iload S.1 dL_law_1145 rfl ?_
  refine k_icmp_eq (tgt := 1152) S.1 dL_law_1147 (by decide) hk hk (fun c1147 => ?_) (fun c1147 => ?_)
  · refine k_iload S.1 dL_law_1152 rfl ?_
    refine k_if_ne (tgt := 1169) S.1 dL_law_1154 (by decide) hk (fun c1154 => ?_) (fun c1154 => ?_)
    · refine k_goto (tgt := 2074) S.1 dL_law_1169 (by decide) ?_
      exact kk _ _ hp1136
    · obtain ⟨g, hg, g0⟩ := MC (by omega) h1136 hp1136
      refine k_aload_n S.1 dL_law_1157 rfl ?_
      refine k_iconst S.1 dL_law_1158 ?_
      refine k_laload S.1 dL_law_1159 hg (by omega) ?_
      refine k_iload S.1 dL_law_1160 rfl ?_
      refine k_i2l S.1 dL_law_1162 hr ?_
      refine k_lcmp S.1 dL_law_1163 (by rw [show ((0 : Int)).toNat = 0 from rfl, g0]; omega) (by omega) ?_
      rw [show ((0 : Int)).toNat = 0 from rfl, g0, if_neg (by omega), if_pos rfl]
      refine k_if_eq (tgt := 1169) S.1 dL_law_1164 (by decide) (by omega) (fun c1164 => ?_) (fun c1164 => ?_)
      · refine k_goto (tgt := 2074) S.1 dL_law_1169 (by decide) ?_
        exact kk _ _ hp1136
      · exact absurd rfl c1164
  · exact absurd rfl c1147
/-- stopsOf -/
theorem r_stopsOf (S : LWk K KX D mc ms b0 L X9) {i : Nat} (hi : (i : Int) + 4 ≤ L) {h : GH} {x mo out od a b : Nat} {l6 l7 : Option GV} {fs : List GV} (hx : h x = some (gObj 7 fs)) {k r : Int} {dw mcw msw dm : Nat} {Pw Pm : GH → Prop} (MW : GMet D yL_stopsOf cL_stopsOf 4 (some .int) [(0, 9, 12, 19)] dw mcw msw [gR (some x), gI (X9 (((i : Nat) : Int) + 1)), gR (some out)] h (pr (gI k) Pw)) (MM : ∀ h1, Pw h1 → (∃ gs, h1 mo = some (gObj 8 gs)) ∧ GMet D yX8_stopsOf cX8_stopsOf 2 (some .int) [] dm 0 0 [gR (some mo), gI (X9 (((i : Nat) : Int) + 1))] h1 (pr (gI r) Pm)) (MT : ∀ h2, Pm h2 → (∃ gs, h2 mo = some (gObj 8 gs)) ∧ GMet D yX8_thrown cX8_thrown 1 (some .int) [] 1 0 0 [gR (some mo)] h2 (pr (gI k) (fun h3 => h3 = h2))) (MC : k = 0 → ∀ h2, Pm h2 → ∃ g, h2 out = some (gArrL 3 1 g) ∧ g 0 = r) (hk : -2147483648 ≤ k ∧ k < 2147483648) (hr : -2147483648 ≤ r ∧ r < 2147483648) (hdw : dw < 2048) (hdm : dm < 2048) (ha : a + mcw ≤ mc) (hb : b + msw ≤ ms) (kk : ∀ (h2 : GH) (l7 : Option GV), Pm h2 → K 2074 [some (gR (some b0)), some (gR (some x)), some (gR (some mo)), some (gR (some out)), some (gR (some od)), some (gI i), some (gI k), l7] [] h2 (a + mcw) (b + msw)) : K 1172 [some (gR (some b0)), some (gR (some x)), some (gR (some mo)), some (gR (some out)), some (gR (some od)), some (gI i), l6, l7] [] h a b := by
  refine k_aload_n S.1 dL_law_1172 rfl ?_
  refine k_aload_n S.1 dL_law_1173 rfl ?_
  refine k_iload S.1 dL_law_1174 rfl ?_
  refine k_iconst S.1 dL_law_1176 ?_
  refine k_iadd S.1 dL_law_1177 ?_
  refine S.2.1 dL_law_1178 (by omega) ?_
  refine k_aload_n S.1 dL_law_1179 rfl ?_
  refine k_callS_r S.1 dL_law_1180 s_L_175 MW (fun h1180 hp1180 => ?_) rfl rfl (by omega) (by omega) (by omega) (Nat.le_of_ble_eq_true rfl)
  obtain ⟨⟨gs, hm⟩, MM⟩ := MM h1180 hp1180
  refine k_istore S.1 dL_law_1183 (by decide) ?_
  refine k_aload_n S.1 dL_law_1185 rfl ?_
  refine k_aload_n S.1 dL_law_1186 rfl ?_
  refine k_iload S.1 dL_law_1187 rfl ?_
  refine k_iconst S.1 dL_law_1189 ?_
  refine k_iadd S.1 dL_law_1190 ?_
  refine S.2.1 dL_law_1191 (by omega) ?_
  refine k_callV_r S.1 dL_law_1192 v_L_177 MM (by assumption) (fun h1192 hp1192 => ?_) rfl rfl (by omega) (by omega) (by omega) (Nat.le_of_ble_eq_true rfl)
  obtain ⟨⟨gs2, hm2⟩, MT⟩ := MT h1192 hp1192
  refine k_istore S.1 dL_law_1195 (by decide) ?_
  refine k_aload_n S.1 dL_law_1197 rfl ?_
  refine k_callV_r S.1 dL_law_1198 v_L_127 MT (by assumption) (fun h1198 hp1198 => ?_) rfl rfl (by omega) (by omega) (by omega) (Nat.le_of_ble_eq_true rfl)
  rw [hp1198]
  refine k_iload S.1 dL_law_1201 rfl ?_
  refine k_icmp_eq (tgt := 1208) S.1 dL_law_1203 (by decide) hk hk (fun c1203 => ?_) (fun c1203 => ?_)
  · refine k_iload S.1 dL_law_1208 rfl ?_
    refine k_if_ne (tgt := 1225) S.1 dL_law_1210 (by decide) hk (fun c1210 => ?_) (fun c1210 => ?_)
    · refine k_goto (tgt := 2074) S.1 dL_law_1225 (by decide) ?_
      exact kk _ _ hp1192
    · obtain ⟨g, hg, g0⟩ := MC (by omega) h1192 hp1192
      refine k_aload_n S.1 dL_law_1213 rfl ?_
      refine k_iconst S.1 dL_law_1214 ?_
      refine k_laload S.1 dL_law_1215 hg (by omega) ?_
      refine k_iload S.1 dL_law_1216 rfl ?_
      refine k_i2l S.1 dL_law_1218 hr ?_
      refine k_lcmp S.1 dL_law_1219 (by rw [show ((0 : Int)).toNat = 0 from rfl, g0]; omega) (by omega) ?_
      rw [show ((0 : Int)).toNat = 0 from rfl, g0, if_neg (by omega), if_pos rfl]
      refine k_if_eq (tgt := 1225) S.1 dL_law_1220 (by decide) (by omega) (fun c1220 => ?_) (fun c1220 => ?_)
      · refine k_goto (tgt := 2074) S.1 dL_law_1225 (by decide) ?_
        exact kk _ _ hp1192
      · exact absurd rfl c1220
  · exact absurd rfl c1203
/-- stopOf -/
theorem r_stopOf (S : LWk K KX D mc ms b0 L X9) {i : Nat} (hi : (i : Int) + 4 ≤ L) {h : GH} {x mo out od a b : Nat} {l6 l7 : Option GV} {fs : List GV} (hx : h x = some (gObj 7 fs)) {k r : Int} {dw mcw msw dm : Nat} {Pw Pm : GH → Prop} (MW : GMet D yL_stopOf cL_stopOf 5 (some .int) [(0, 10, 13, 19), (0, 10, 17, 67)] dw mcw msw [gR (some x), gI (X9 (((i : Nat) : Int) + 1)), gI (X9 (((i : Nat) : Int) + 2)), gR (some out)] h (pr (gI k) Pw)) (MM : ∀ h1, Pw h1 → (∃ gs, h1 mo = some (gObj 8 gs)) ∧ GMet D yX8_stopOf cX8_stopOf 3 (some .int) [] dm 0 0 [gR (some mo), gI (X9 (((i : Nat) : Int) + 1)), gI (X9 (((i : Nat) : Int) + 2))] h1 (pr (gI r) Pm)) (MT : ∀ h2, Pm h2 → (∃ gs, h2 mo = some (gObj 8 gs)) ∧ GMet D yX8_thrown cX8_thrown 1 (some .int) [] 1 0 0 [gR (some mo)] h2 (pr (gI k) (fun h3 => h3 = h2))) (MC : k = 0 → ∀ h2, Pm h2 → ∃ g, h2 out = some (gArrL 3 1 g) ∧ g 0 = r) (hk : -2147483648 ≤ k ∧ k < 2147483648) (hr : -2147483648 ≤ r ∧ r < 2147483648) (hdw : dw < 2048) (hdm : dm < 2048) (ha : a + mcw ≤ mc) (hb : b + msw ≤ ms) (kk : ∀ (h2 : GH) (l7 : Option GV), Pm h2 → K 2074 [some (gR (some b0)), some (gR (some x)), some (gR (some mo)), some (gR (some out)), some (gR (some od)), some (gI i), some (gI k), l7] [] h2 (a + mcw) (b + msw)) : K 1228 [some (gR (some b0)), some (gR (some x)), some (gR (some mo)), some (gR (some out)), some (gR (some od)), some (gI i), l6, l7] [] h a b := by
  refine k_aload_n S.1 dL_law_1228 rfl ?_
  refine k_aload_n S.1 dL_law_1229 rfl ?_
  refine k_iload S.1 dL_law_1230 rfl ?_
  refine k_iconst S.1 dL_law_1232 ?_
  refine k_iadd S.1 dL_law_1233 ?_
  refine S.2.1 dL_law_1234 (by omega) ?_
  refine k_aload_n S.1 dL_law_1235 rfl ?_
  refine k_iload S.1 dL_law_1236 rfl ?_
  refine k_iconst S.1 dL_law_1238 ?_
  refine k_iadd S.1 dL_law_1239 ?_
  refine S.2.1 dL_law_1240 (by omega) ?_
  refine k_aload_n S.1 dL_law_1241 rfl ?_
  refine k_callS_r S.1 dL_law_1242 s_L_178 MW (fun h1242 hp1242 => ?_) rfl rfl (by omega) (by omega) (by omega) (Nat.le_of_ble_eq_true rfl)
  obtain ⟨⟨gs, hm⟩, MM⟩ := MM h1242 hp1242
  refine k_istore S.1 dL_law_1245 (by decide) ?_
  refine k_aload_n S.1 dL_law_1247 rfl ?_
  refine k_aload_n S.1 dL_law_1248 rfl ?_
  refine k_iload S.1 dL_law_1249 rfl ?_
  refine k_iconst S.1 dL_law_1251 ?_
  refine k_iadd S.1 dL_law_1252 ?_
  refine S.2.1 dL_law_1253 (by omega) ?_
  refine k_aload_n S.1 dL_law_1254 rfl ?_
  refine k_iload S.1 dL_law_1255 rfl ?_
  refine k_iconst S.1 dL_law_1257 ?_
  refine k_iadd S.1 dL_law_1258 ?_
  refine S.2.1 dL_law_1259 (by omega) ?_
  refine k_callV_r S.1 dL_law_1260 v_L_180 MM (by assumption) (fun h1260 hp1260 => ?_) rfl rfl (by omega) (by omega) (by omega) (Nat.le_of_ble_eq_true rfl)
  obtain ⟨⟨gs2, hm2⟩, MT⟩ := MT h1260 hp1260
  refine k_istore S.1 dL_law_1263 (by decide) ?_
  refine k_aload_n S.1 dL_law_1265 rfl ?_
  refine k_callV_r S.1 dL_law_1266 v_L_127 MT (by assumption) (fun h1266 hp1266 => ?_) rfl rfl (by omega) (by omega) (by omega) (Nat.le_of_ble_eq_true rfl)
  rw [hp1266]
  refine k_iload S.1 dL_law_1269 rfl ?_
  refine k_icmp_eq (tgt := 1276) S.1 dL_law_1271 (by decide) hk hk (fun c1271 => ?_) (fun c1271 => ?_)
  · refine k_iload S.1 dL_law_1276 rfl ?_
    refine k_if_ne (tgt := 1293) S.1 dL_law_1278 (by decide) hk (fun c1278 => ?_) (fun c1278 => ?_)
    · refine k_goto (tgt := 2074) S.1 dL_law_1293 (by decide) ?_
      exact kk _ _ hp1260
    · obtain ⟨g, hg, g0⟩ := MC (by omega) h1260 hp1260
      refine k_aload_n S.1 dL_law_1281 rfl ?_
      refine k_iconst S.1 dL_law_1282 ?_
      refine k_laload S.1 dL_law_1283 hg (by omega) ?_
      refine k_iload S.1 dL_law_1284 rfl ?_
      refine k_i2l S.1 dL_law_1286 hr ?_
      refine k_lcmp S.1 dL_law_1287 (by rw [show ((0 : Int)).toNat = 0 from rfl, g0]; omega) (by omega) ?_
      rw [show ((0 : Int)).toNat = 0 from rfl, g0, if_neg (by omega), if_pos rfl]
      refine k_if_eq (tgt := 1293) S.1 dL_law_1288 (by decide) (by omega) (fun c1288 => ?_) (fun c1288 => ?_)
      · refine k_goto (tgt := 2074) S.1 dL_law_1293 (by decide) ?_
        exact kk _ _ hp1260
      · exact absurd rfl c1288
  · exact absurd rfl c1271
/-- comesTo -/
theorem r_comesTo (S : LWk K KX D mc ms b0 L X9) {i : Nat} (hi : (i : Int) + 4 ≤ L) {h : GH} {x mo out od a b : Nat} {l6 l7 : Option GV} {fs : List GV} (hx : h x = some (gObj 7 fs)) {k r : Int} {dw mcw msw dm : Nat} {Pw Pm : GH → Prop} (MW : GMet D yL_comesTo cL_comesTo 5 (some .int) [(0, 17, 20, 19)] dw mcw msw [gR (some x), gI (X9 (((i : Nat) : Int) + 1)), gI (X9 (((i : Nat) : Int) + 2)), gR (some out)] h (pr (gI k) Pw)) (MM : ∀ h1, Pw h1 → (∃ gs, h1 mo = some (gObj 8 gs)) ∧ GMet D yX8_comesTo cX8_comesTo 3 (some .boolean) [] dm 0 0 [gR (some mo), gI (X9 (((i : Nat) : Int) + 1)), gI (X9 (((i : Nat) : Int) + 2))] h1 (pr (gI r) Pm)) (MT : ∀ h2, Pm h2 → (∃ gs, h2 mo = some (gObj 8 gs)) ∧ GMet D yX8_thrown cX8_thrown 1 (some .int) [] 1 0 0 [gR (some mo)] h2 (pr (gI k) (fun h3 => h3 = h2))) (MC : k = 0 → ∀ h2, Pm h2 → ∃ g, h2 out = some (gArrL 3 1 g) ∧ g 0 = r) (hk : -2147483648 ≤ k ∧ k < 2147483648) (hr : -2147483648 ≤ r ∧ r < 2147483648) (hr2 : r = 0 ∨ r = 1) (hdw : dw < 2048) (hdm : dm < 2048) (ha : a + mcw ≤ mc) (hb : b + msw ≤ ms) (kk : ∀ (h2 : GH) (l7 : Option GV), Pm h2 → K 2074 [some (gR (some b0)), some (gR (some x)), some (gR (some mo)), some (gR (some out)), some (gR (some od)), some (gI i), some (gI k), l7] [] h2 (a + mcw) (b + msw)) : K 1296 [some (gR (some b0)), some (gR (some x)), some (gR (some mo)), some (gR (some out)), some (gR (some od)), some (gI i), l6, l7] [] h a b := by
  refine k_aload_n S.1 dL_law_1296 rfl ?_
  refine k_aload_n S.1 dL_law_1297 rfl ?_
  refine k_iload S.1 dL_law_1298 rfl ?_
  refine k_iconst S.1 dL_law_1300 ?_
  refine k_iadd S.1 dL_law_1301 ?_
  refine S.2.1 dL_law_1302 (by omega) ?_
  refine k_aload_n S.1 dL_law_1303 rfl ?_
  refine k_iload S.1 dL_law_1304 rfl ?_
  refine k_iconst S.1 dL_law_1306 ?_
  refine k_iadd S.1 dL_law_1307 ?_
  refine S.2.1 dL_law_1308 (by omega) ?_
  refine k_aload_n S.1 dL_law_1309 rfl ?_
  refine k_callS_r S.1 dL_law_1310 s_L_181 MW (fun h1310 hp1310 => ?_) rfl rfl (by omega) (by omega) (by omega) (Nat.le_of_ble_eq_true rfl)
  obtain ⟨⟨gs, hm⟩, MM⟩ := MM h1310 hp1310
  refine k_istore S.1 dL_law_1313 (by decide) ?_
  refine k_aload_n S.1 dL_law_1315 rfl ?_
  refine k_aload_n S.1 dL_law_1316 rfl ?_
  refine k_iload S.1 dL_law_1317 rfl ?_
  refine k_iconst S.1 dL_law_1319 ?_
  refine k_iadd S.1 dL_law_1320 ?_
  refine S.2.1 dL_law_1321 (by omega) ?_
  refine k_aload_n S.1 dL_law_1322 rfl ?_
  refine k_iload S.1 dL_law_1323 rfl ?_
  refine k_iconst S.1 dL_law_1325 ?_
  refine k_iadd S.1 dL_law_1326 ?_
  refine S.2.1 dL_law_1327 (by omega) ?_
  refine k_callV_r S.1 dL_law_1328 v_L_183 MM (by assumption) (fun h1328 hp1328 => ?_) rfl rfl (by omega) (by omega) (by omega) (Nat.le_of_ble_eq_true rfl)
  obtain ⟨⟨gs2, hm2⟩, MT⟩ := MT h1328 hp1328
  refine k_istore S.1 dL_law_1331 (by decide) ?_
  refine k_aload_n S.1 dL_law_1333 rfl ?_
  refine k_callV_r S.1 dL_law_1334 v_L_127 MT (by assumption) (fun h1334 hp1334 => ?_) rfl rfl (by omega) (by omega) (by omega) (Nat.le_of_ble_eq_true rfl)
  rw [hp1334]
  refine k_iload S.1 dL_law_1337 rfl ?_
  refine k_icmp_eq (tgt := 1344) S.1 dL_law_1339 (by decide) hk hk (fun c1339 => ?_) (fun c1339 => ?_)
  · refine k_iload S.1 dL_law_1344 rfl ?_
    refine k_if_ne (tgt := 1368) S.1 dL_law_1346 (by decide) hk (fun c1346 => ?_) (fun c1346 => ?_)
    · refine k_goto (tgt := 2074) S.1 dL_law_1368 (by decide) ?_
      exact kk _ _ hp1328
    · obtain ⟨g, hg, g0⟩ := MC (by omega) h1328 hp1328
      refine k_aload_n S.1 dL_law_1349 rfl ?_
      refine k_iconst S.1 dL_law_1350 ?_
      refine k_laload S.1 dL_law_1351 hg (by omega) ?_
      refine k_iload S.1 dL_law_1352 rfl ?_
      refine k_if_eq (tgt := 1361) S.1 dL_law_1354 (by decide) hr (fun c1354 => ?_) (fun c1354 => ?_)
      · refine k_lconst S.1 (v := 0) rfl dL_law_1361 ?_
        refine k_lcmp S.1 dL_law_1362 (by rw [show ((0 : Int)).toNat = 0 from rfl, g0]; omega) (by omega) ?_
        rw [show ((0 : Int)).toNat = 0 from rfl, g0, if_neg (by omega), if_pos (by omega)]
        refine k_if_eq (tgt := 1368) S.1 dL_law_1363 (by decide) (by omega) (fun c1363 => ?_) (fun c1363 => ?_)
        · refine k_goto (tgt := 2074) S.1 dL_law_1368 (by decide) ?_
          exact kk _ _ hp1328
        · exact absurd rfl c1363
      · refine k_lconst S.1 (v := 1) rfl dL_law_1357 ?_
        refine k_goto (tgt := 1362) S.1 dL_law_1358 (by decide) ?_
        refine k_lcmp S.1 dL_law_1362 (by rw [show ((0 : Int)).toNat = 0 from rfl, g0]; omega) (by omega) ?_
        rw [show ((0 : Int)).toNat = 0 from rfl, g0, if_neg (by omega), if_pos (by omega)]
        refine k_if_eq (tgt := 1368) S.1 dL_law_1363 (by decide) (by omega) (fun c1363 => ?_) (fun c1363 => ?_)
        · refine k_goto (tgt := 2074) S.1 dL_law_1368 (by decide) ?_
          exact kk _ _ hp1328
        · exact absurd rfl c1363
  · exact absurd rfl c1339
/-- depth -/
theorem r_depth (S : LWk K KX D mc ms b0 L X9) {i : Nat} (hi : (i : Int) + 4 ≤ L) {h : GH} {x mo out od a b : Nat} {l6 l7 : Option GV} {fs : List GV} (hx : h x = some (gObj 7 fs)) {k r : Int} {dw mcw msw dm : Nat} {Pw Pm : GH → Prop} (MW : GMet D yL_depth cL_depth 4 (some .int) [(0, 9, 12, 19)] dw mcw msw [gR (some x), gI (X9 (((i : Nat) : Int) + 1)), gR (some out)] h (pr (gI k) Pw)) (MM : ∀ h1, Pw h1 → (∃ gs, h1 mo = some (gObj 8 gs)) ∧ GMet D yX8_depth cX8_depth 2 (some .int) [] dm 0 0 [gR (some mo), gI (X9 (((i : Nat) : Int) + 1))] h1 (pr (gI r) Pm)) (MT : ∀ h2, Pm h2 → (∃ gs, h2 mo = some (gObj 8 gs)) ∧ GMet D yX8_thrown cX8_thrown 1 (some .int) [] 1 0 0 [gR (some mo)] h2 (pr (gI k) (fun h3 => h3 = h2))) (MC : k = 0 → ∀ h2, Pm h2 → ∃ g, h2 out = some (gArrL 3 1 g) ∧ g 0 = r) (hk : -2147483648 ≤ k ∧ k < 2147483648) (hr : -2147483648 ≤ r ∧ r < 2147483648) (hdw : dw < 2048) (hdm : dm < 2048) (ha : a + mcw ≤ mc) (hb : b + msw ≤ ms) (kk : ∀ (h2 : GH) (l7 : Option GV), Pm h2 → K 2074 [some (gR (some b0)), some (gR (some x)), some (gR (some mo)), some (gR (some out)), some (gR (some od)), some (gI i), some (gI k), l7] [] h2 (a + mcw) (b + msw)) : K 1371 [some (gR (some b0)), some (gR (some x)), some (gR (some mo)), some (gR (some out)), some (gR (some od)), some (gI i), l6, l7] [] h a b := by
  refine k_aload_n S.1 dL_law_1371 rfl ?_
  refine k_aload_n S.1 dL_law_1372 rfl ?_
  refine k_iload S.1 dL_law_1373 rfl ?_
  refine k_iconst S.1 dL_law_1375 ?_
  refine k_iadd S.1 dL_law_1376 ?_
  refine S.2.1 dL_law_1377 (by omega) ?_
  refine k_aload_n S.1 dL_law_1378 rfl ?_
  refine k_callS_r S.1 dL_law_1379 s_L_184 MW (fun h1379 hp1379 => ?_) rfl rfl (by omega) (by omega) (by omega) (Nat.le_of_ble_eq_true rfl)
  obtain ⟨⟨gs, hm⟩, MM⟩ := MM h1379 hp1379
  refine k_istore S.1 dL_law_1382 (by decide) ?_
  refine k_aload_n S.1 dL_law_1384 rfl ?_
  refine k_aload_n S.1 dL_law_1385 rfl ?_
  refine k_iload S.1 dL_law_1386 rfl ?_
  refine k_iconst S.1 dL_law_1388 ?_
  refine k_iadd S.1 dL_law_1389 ?_
  refine S.2.1 dL_law_1390 (by omega) ?_
  refine k_callV_r S.1 dL_law_1391 v_L_186 MM (by assumption) (fun h1391 hp1391 => ?_) rfl rfl (by omega) (by omega) (by omega) (Nat.le_of_ble_eq_true rfl)
  obtain ⟨⟨gs2, hm2⟩, MT⟩ := MT h1391 hp1391
  refine k_istore S.1 dL_law_1394 (by decide) ?_
  refine k_aload_n S.1 dL_law_1396 rfl ?_
  refine k_callV_r S.1 dL_law_1397 v_L_127 MT (by assumption) (fun h1397 hp1397 => ?_) rfl rfl (by omega) (by omega) (by omega) (Nat.le_of_ble_eq_true rfl)
  rw [hp1397]
  refine k_iload S.1 dL_law_1400 rfl ?_
  refine k_icmp_eq (tgt := 1407) S.1 dL_law_1402 (by decide) hk hk (fun c1402 => ?_) (fun c1402 => ?_)
  · refine k_iload S.1 dL_law_1407 rfl ?_
    refine k_if_ne (tgt := 1424) S.1 dL_law_1409 (by decide) hk (fun c1409 => ?_) (fun c1409 => ?_)
    · refine k_goto (tgt := 2074) S.1 dL_law_1424 (by decide) ?_
      exact kk _ _ hp1391
    · obtain ⟨g, hg, g0⟩ := MC (by omega) h1391 hp1391
      refine k_aload_n S.1 dL_law_1412 rfl ?_
      refine k_iconst S.1 dL_law_1413 ?_
      refine k_laload S.1 dL_law_1414 hg (by omega) ?_
      refine k_iload S.1 dL_law_1415 rfl ?_
      refine k_i2l S.1 dL_law_1417 hr ?_
      refine k_lcmp S.1 dL_law_1418 (by rw [show ((0 : Int)).toNat = 0 from rfl, g0]; omega) (by omega) ?_
      rw [show ((0 : Int)).toNat = 0 from rfl, g0, if_neg (by omega), if_pos rfl]
      refine k_if_eq (tgt := 1424) S.1 dL_law_1419 (by decide) (by omega) (fun c1419 => ?_) (fun c1419 => ?_)
      · refine k_goto (tgt := 2074) S.1 dL_law_1424 (by decide) ?_
        exact kk _ _ hp1391
      · exact absurd rfl c1419
  · exact absurd rfl c1402
/-- isShadowedBy -/
theorem r_isShadowedBy (S : LWk K KX D mc ms b0 L X9) {i : Nat} (hi : (i : Int) + 4 ≤ L) {h : GH} {x mo out od a b : Nat} {l6 l7 : Option GV} {fs : List GV} (hx : h x = some (gObj 7 fs)) {k r : Int} {dw mcw msw dm : Nat} {Pw Pm : GH → Prop} (MW : GMet D yL_isShadowedBy cL_isShadowedBy 5 (some .int) [(0, 17, 20, 19)] dw mcw msw [gR (some x), gI (X9 (((i : Nat) : Int) + 1)), gI (X9 (((i : Nat) : Int) + 2)), gR (some out)] h (pr (gI k) Pw)) (MM : ∀ h1, Pw h1 → (∃ gs, h1 mo = some (gObj 8 gs)) ∧ GMet D yX8_isShadowedBy cX8_isShadowedBy 3 (some .boolean) [] dm 0 0 [gR (some mo), gI (X9 (((i : Nat) : Int) + 1)), gI (X9 (((i : Nat) : Int) + 2))] h1 (pr (gI r) Pm)) (MT : ∀ h2, Pm h2 → (∃ gs, h2 mo = some (gObj 8 gs)) ∧ GMet D yX8_thrown cX8_thrown 1 (some .int) [] 1 0 0 [gR (some mo)] h2 (pr (gI k) (fun h3 => h3 = h2))) (MC : k = 0 → ∀ h2, Pm h2 → ∃ g, h2 out = some (gArrL 3 1 g) ∧ g 0 = r) (hk : -2147483648 ≤ k ∧ k < 2147483648) (hr : -2147483648 ≤ r ∧ r < 2147483648) (hr2 : r = 0 ∨ r = 1) (hdw : dw < 2048) (hdm : dm < 2048) (ha : a + mcw ≤ mc) (hb : b + msw ≤ ms) (kk : ∀ (h2 : GH) (l7 : Option GV), Pm h2 → K 2074 [some (gR (some b0)), some (gR (some x)), some (gR (some mo)), some (gR (some out)), some (gR (some od)), some (gI i), some (gI k), l7] [] h2 (a + mcw) (b + msw)) : K 1427 [some (gR (some b0)), some (gR (some x)), some (gR (some mo)), some (gR (some out)), some (gR (some od)), some (gI i), l6, l7] [] h a b := by
  refine k_aload_n S.1 dL_law_1427 rfl ?_
  refine k_aload_n S.1 dL_law_1428 rfl ?_
  refine k_iload S.1 dL_law_1429 rfl ?_
  refine k_iconst S.1 dL_law_1431 ?_
  refine k_iadd S.1 dL_law_1432 ?_
  refine S.2.1 dL_law_1433 (by omega) ?_
  refine k_aload_n S.1 dL_law_1434 rfl ?_
  refine k_iload S.1 dL_law_1435 rfl ?_
  refine k_iconst S.1 dL_law_1437 ?_
  refine k_iadd S.1 dL_law_1438 ?_
  refine S.2.1 dL_law_1439 (by omega) ?_
  refine k_aload_n S.1 dL_law_1440 rfl ?_
  refine k_callS_r S.1 dL_law_1441 s_L_187 MW (fun h1441 hp1441 => ?_) rfl rfl (by omega) (by omega) (by omega) (Nat.le_of_ble_eq_true rfl)
  obtain ⟨⟨gs, hm⟩, MM⟩ := MM h1441 hp1441
  refine k_istore S.1 dL_law_1444 (by decide) ?_
  refine k_aload_n S.1 dL_law_1446 rfl ?_
  refine k_aload_n S.1 dL_law_1447 rfl ?_
  refine k_iload S.1 dL_law_1448 rfl ?_
  refine k_iconst S.1 dL_law_1450 ?_
  refine k_iadd S.1 dL_law_1451 ?_
  refine S.2.1 dL_law_1452 (by omega) ?_
  refine k_aload_n S.1 dL_law_1453 rfl ?_
  refine k_iload S.1 dL_law_1454 rfl ?_
  refine k_iconst S.1 dL_law_1456 ?_
  refine k_iadd S.1 dL_law_1457 ?_
  refine S.2.1 dL_law_1458 (by omega) ?_
  refine k_callV_r S.1 dL_law_1459 v_L_189 MM (by assumption) (fun h1459 hp1459 => ?_) rfl rfl (by omega) (by omega) (by omega) (Nat.le_of_ble_eq_true rfl)
  obtain ⟨⟨gs2, hm2⟩, MT⟩ := MT h1459 hp1459
  refine k_istore S.1 dL_law_1462 (by decide) ?_
  refine k_aload_n S.1 dL_law_1464 rfl ?_
  refine k_callV_r S.1 dL_law_1465 v_L_127 MT (by assumption) (fun h1465 hp1465 => ?_) rfl rfl (by omega) (by omega) (by omega) (Nat.le_of_ble_eq_true rfl)
  rw [hp1465]
  refine k_iload S.1 dL_law_1468 rfl ?_
  refine k_icmp_eq (tgt := 1475) S.1 dL_law_1470 (by decide) hk hk (fun c1470 => ?_) (fun c1470 => ?_)
  · refine k_iload S.1 dL_law_1475 rfl ?_
    refine k_if_ne (tgt := 1499) S.1 dL_law_1477 (by decide) hk (fun c1477 => ?_) (fun c1477 => ?_)
    · refine k_goto (tgt := 2074) S.1 dL_law_1499 (by decide) ?_
      exact kk _ _ hp1459
    · obtain ⟨g, hg, g0⟩ := MC (by omega) h1459 hp1459
      refine k_aload_n S.1 dL_law_1480 rfl ?_
      refine k_iconst S.1 dL_law_1481 ?_
      refine k_laload S.1 dL_law_1482 hg (by omega) ?_
      refine k_iload S.1 dL_law_1483 rfl ?_
      refine k_if_eq (tgt := 1492) S.1 dL_law_1485 (by decide) hr (fun c1485 => ?_) (fun c1485 => ?_)
      · refine k_lconst S.1 (v := 0) rfl dL_law_1492 ?_
        refine k_lcmp S.1 dL_law_1493 (by rw [show ((0 : Int)).toNat = 0 from rfl, g0]; omega) (by omega) ?_
        rw [show ((0 : Int)).toNat = 0 from rfl, g0, if_neg (by omega), if_pos (by omega)]
        refine k_if_eq (tgt := 1499) S.1 dL_law_1494 (by decide) (by omega) (fun c1494 => ?_) (fun c1494 => ?_)
        · refine k_goto (tgt := 2074) S.1 dL_law_1499 (by decide) ?_
          exact kk _ _ hp1459
        · exact absurd rfl c1494
      · refine k_lconst S.1 (v := 1) rfl dL_law_1488 ?_
        refine k_goto (tgt := 1493) S.1 dL_law_1489 (by decide) ?_
        refine k_lcmp S.1 dL_law_1493 (by rw [show ((0 : Int)).toNat = 0 from rfl, g0]; omega) (by omega) ?_
        rw [show ((0 : Int)).toNat = 0 from rfl, g0, if_neg (by omega), if_pos (by omega)]
        refine k_if_eq (tgt := 1499) S.1 dL_law_1494 (by decide) (by omega) (fun c1494 => ?_) (fun c1494 => ?_)
        · refine k_goto (tgt := 2074) S.1 dL_law_1499 (by decide) ?_
          exact kk _ _ hp1459
        · exact absurd rfl c1494
  · exact absurd rfl c1470
/-- shadower -/
theorem r_shadower (S : LWk K KX D mc ms b0 L X9) {i : Nat} (hi : (i : Int) + 4 ≤ L) {h : GH} {x mo out od a b : Nat} {l6 l7 : Option GV} {fs : List GV} (hx : h x = some (gObj 7 fs)) {k r : Int} {dw mcw msw dm : Nat} {Pw Pm : GH → Prop} (MW : GMet D yL_shadower cL_shadower 4 (some .int) [(0, 9, 12, 19), (0, 9, 15, 67)] dw mcw msw [gR (some x), gI (X9 (((i : Nat) : Int) + 1)), gR (some out)] h (pr (gI k) Pw)) (MM : ∀ h1, Pw h1 → (∃ gs, h1 mo = some (gObj 8 gs)) ∧ GMet D yX8_shadower cX8_shadower 3 (some .int) [] dm 0 0 [gR (some mo), gI (X9 (((i : Nat) : Int) + 1))] h1 (pr (gI r) Pm)) (MT : ∀ h2, Pm h2 → (∃ gs, h2 mo = some (gObj 8 gs)) ∧ GMet D yX8_thrown cX8_thrown 1 (some .int) [] 1 0 0 [gR (some mo)] h2 (pr (gI k) (fun h3 => h3 = h2))) (MC : k = 0 → ∀ h2, Pm h2 → ∃ g, h2 out = some (gArrL 3 1 g) ∧ g 0 = r) (hk : -2147483648 ≤ k ∧ k < 2147483648) (hr : -2147483648 ≤ r ∧ r < 2147483648) (hdw : dw < 2048) (hdm : dm < 2048) (ha : a + mcw ≤ mc) (hb : b + msw ≤ ms) (kk : ∀ (h2 : GH) (l7 : Option GV), Pm h2 → K 2074 [some (gR (some b0)), some (gR (some x)), some (gR (some mo)), some (gR (some out)), some (gR (some od)), some (gI i), some (gI k), l7] [] h2 (a + mcw) (b + msw)) : K 1502 [some (gR (some b0)), some (gR (some x)), some (gR (some mo)), some (gR (some out)), some (gR (some od)), some (gI i), l6, l7] [] h a b := by
  refine k_aload_n S.1 dL_law_1502 rfl ?_
  refine k_aload_n S.1 dL_law_1503 rfl ?_
  refine k_iload S.1 dL_law_1504 rfl ?_
  refine k_iconst S.1 dL_law_1506 ?_
  refine k_iadd S.1 dL_law_1507 ?_
  refine S.2.1 dL_law_1508 (by omega) ?_
  refine k_aload_n S.1 dL_law_1509 rfl ?_
  refine k_callS_r S.1 dL_law_1510 s_L_190 MW (fun h1510 hp1510 => ?_) rfl rfl (by omega) (by omega) (by omega) (Nat.le_of_ble_eq_true rfl)
  obtain ⟨⟨gs, hm⟩, MM⟩ := MM h1510 hp1510
  refine k_istore S.1 dL_law_1513 (by decide) ?_
  refine k_aload_n S.1 dL_law_1515 rfl ?_
  refine k_aload_n S.1 dL_law_1516 rfl ?_
  refine k_iload S.1 dL_law_1517 rfl ?_
  refine k_iconst S.1 dL_law_1519 ?_
  refine k_iadd S.1 dL_law_1520 ?_
  refine S.2.1 dL_law_1521 (by omega) ?_
  refine k_callV_r S.1 dL_law_1522 v_L_192 MM (by assumption) (fun h1522 hp1522 => ?_) rfl rfl (by omega) (by omega) (by omega) (Nat.le_of_ble_eq_true rfl)
  obtain ⟨⟨gs2, hm2⟩, MT⟩ := MT h1522 hp1522
  refine k_istore S.1 dL_law_1525 (by decide) ?_
  refine k_aload_n S.1 dL_law_1527 rfl ?_
  refine k_callV_r S.1 dL_law_1528 v_L_127 MT (by assumption) (fun h1528 hp1528 => ?_) rfl rfl (by omega) (by omega) (by omega) (Nat.le_of_ble_eq_true rfl)
  rw [hp1528]
  refine k_iload S.1 dL_law_1531 rfl ?_
  refine k_icmp_eq (tgt := 1538) S.1 dL_law_1533 (by decide) hk hk (fun c1533 => ?_) (fun c1533 => ?_)
  · refine k_iload S.1 dL_law_1538 rfl ?_
    refine k_if_ne (tgt := 1555) S.1 dL_law_1540 (by decide) hk (fun c1540 => ?_) (fun c1540 => ?_)
    · refine k_goto (tgt := 2074) S.1 dL_law_1555 (by decide) ?_
      exact kk _ _ hp1522
    · obtain ⟨g, hg, g0⟩ := MC (by omega) h1522 hp1522
      refine k_aload_n S.1 dL_law_1543 rfl ?_
      refine k_iconst S.1 dL_law_1544 ?_
      refine k_laload S.1 dL_law_1545 hg (by omega) ?_
      refine k_iload S.1 dL_law_1546 rfl ?_
      refine k_i2l S.1 dL_law_1548 hr ?_
      refine k_lcmp S.1 dL_law_1549 (by rw [show ((0 : Int)).toNat = 0 from rfl, g0]; omega) (by omega) ?_
      rw [show ((0 : Int)).toNat = 0 from rfl, g0, if_neg (by omega), if_pos rfl]
      refine k_if_eq (tgt := 1555) S.1 dL_law_1550 (by decide) (by omega) (fun c1550 => ?_) (fun c1550 => ?_)
      · refine k_goto (tgt := 2074) S.1 dL_law_1555 (by decide) ?_
        exact kk _ _ hp1522
      · exact absurd rfl c1550
  · exact absurd rfl c1533
/-- clashes -/
theorem r_clashes (S : LWk K KX D mc ms b0 L X9) {i : Nat} {h : GH} {x mo out od a b : Nat} {l6 l7 : Option GV} {fs gs : List GV} (hx : h x = some (gObj 7 fs)) (hm : h mo = some (gObj 8 gs)) {v : Int} (hv : -2147483648 ≤ v ∧ v < 2147483648) {d1 d2 : Nat} (M1 : GMet D yX7_clashes cX7_clashes 3 (some .int) [] d1 0 0 [gR (some x)] h (pr (gI v) (fun h1 => h1 = h))) (M2 : GMet D yX8_clashes cX8_clashes 3 (some .int) [] d2 0 0 [gR (some mo)] h (pr (gI v) (fun h1 => h1 = h))) (hd1 : d1 < 2048) (hd2 : d2 < 2048) (ha : a ≤ mc) (hb : b ≤ ms) (kk : K 2074 [some (gR (some b0)), some (gR (some x)), some (gR (some mo)), some (gR (some out)), some (gR (some od)), some (gI i), l6, l7] [] h a b) : K 1558 [some (gR (some b0)), some (gR (some x)), some (gR (some mo)), some (gR (some out)), some (gR (some od)), some (gI i), l6, l7] [] h a b := by
  refine k_aload_n S.1 dL_law_1558 rfl ?_
  refine k_callV_r S.1 dL_law_1559 v_L_193 M1 (by assumption) (fun h1559 hp1559 => ?_) rfl rfl (by omega) (by omega) (by omega) (Nat.le_of_ble_eq_true rfl)
  rw [hp1559]
  refine k_aload_n S.1 dL_law_1562 rfl ?_
  refine k_callV_r S.1 dL_law_1563 v_L_196 M2 (by assumption) (fun h1563 hp1563 => ?_) rfl rfl (by omega) (by omega) (by omega) (Nat.le_of_ble_eq_true rfl)
  rw [hp1563]
  refine k_icmp_eq (tgt := 2074) S.1 dL_law_1566 (by decide) hv hv (fun c1566 => ?_) (fun c1566 => ?_)
  · exact kk
  · exact absurd rfl c1566
/-- key -/
theorem r_key (S : LWk K KX D mc ms b0 L X9) {i : Nat} (hi : (i : Int) + 4 ≤ L) {h : GH} {x mo out od a b : Nat} {l6 l7 : Option GV} {fs : List GV} (hx : h x = some (gObj 7 fs)) {k r : Int} {dw mcw msw dm : Nat} {Pw Pm : GH → Prop} (MW : GMet D yL_key cL_key 4 (some .int) [(0, 9, 12, 21), (0, 9, 15, 13)] dw mcw msw [gR (some x), gI (X9 (((i : Nat) : Int) + 1) % 65536), gR (some out)] h (pr (gI k) Pw)) (MM : ∀ h1, Pw h1 → (∃ gs, h1 mo = some (gObj 8 gs)) ∧ GMet D yX8_key cX8_key 3 (some .int) [] dm 0 0 [gR (some mo), gI (X9 (((i : Nat) : Int) + 1) % 65536)] h1 (pr (gI r) Pm)) (MT : ∀ h2, Pm h2 → (∃ gs, h2 mo = some (gObj 8 gs)) ∧ GMet D yX8_thrown cX8_thrown 1 (some .int) [] 1 0 0 [gR (some mo)] h2 (pr (gI k) (fun h3 => h3 = h2))) (MC : k = 0 → ∀ h2, Pm h2 → ∃ g, h2 out = some (gArrL 3 1 g) ∧ g 0 = r) (hk : -2147483648 ≤ k ∧ k < 2147483648) (hr : -2147483648 ≤ r ∧ r < 2147483648) (hdw : dw < 2048) (hdm : dm < 2048) (ha : a + mcw ≤ mc) (hb : b + msw ≤ ms) (kk : ∀ (h2 : GH) (l7 : Option GV), Pm h2 → K 2074 [some (gR (some b0)), some (gR (some x)), some (gR (some mo)), some (gR (some out)), some (gR (some od)), some (gI i), some (gI k), l7] [] h2 (a + mcw) (b + msw)) : K 1571 [some (gR (some b0)), some (gR (some x)), some (gR (some mo)), some (gR (some out)), some (gR (some od)), some (gI i), l6, l7] [] h a b := by
  refine k_aload_n S.1 dL_law_1571 rfl ?_
  refine k_aload_n S.1 dL_law_1572 rfl ?_
  refine k_iload S.1 dL_law_1573 rfl ?_
  refine k_iconst S.1 dL_law_1575 ?_
  refine k_iadd S.1 dL_law_1576 ?_
  refine S.2.1 dL_law_1577 (by omega) ?_
  refine k_i2c S.1 dL_law_1578 ?_
  refine k_aload_n S.1 dL_law_1579 rfl ?_
  refine k_callS_r S.1 dL_law_1580 s_L_197 MW (fun h1580 hp1580 => ?_) rfl rfl (by omega) (by omega) (by omega) (Nat.le_of_ble_eq_true rfl)
  obtain ⟨⟨gs, hm⟩, MM⟩ := MM h1580 hp1580
  refine k_istore S.1 dL_law_1583 (by decide) ?_
  refine k_aload_n S.1 dL_law_1585 rfl ?_
  refine k_aload_n S.1 dL_law_1586 rfl ?_
  refine k_iload S.1 dL_law_1587 rfl ?_
  refine k_iconst S.1 dL_law_1589 ?_
  refine k_iadd S.1 dL_law_1590 ?_
  refine S.2.1 dL_law_1591 (by omega) ?_
  refine k_i2c S.1 dL_law_1592 ?_
  refine k_callV_r S.1 dL_law_1593 v_L_200 MM (by assumption) (fun h1593 hp1593 => ?_) rfl rfl (by omega) (by omega) (by omega) (Nat.le_of_ble_eq_true rfl)
  obtain ⟨⟨gs2, hm2⟩, MT⟩ := MT h1593 hp1593
  refine k_istore S.1 dL_law_1596 (by decide) ?_
  refine k_aload_n S.1 dL_law_1598 rfl ?_
  refine k_callV_r S.1 dL_law_1599 v_L_127 MT (by assumption) (fun h1599 hp1599 => ?_) rfl rfl (by omega) (by omega) (by omega) (Nat.le_of_ble_eq_true rfl)
  rw [hp1599]
  refine k_iload S.1 dL_law_1602 rfl ?_
  refine k_icmp_eq (tgt := 1609) S.1 dL_law_1604 (by decide) hk hk (fun c1604 => ?_) (fun c1604 => ?_)
  · refine k_iload S.1 dL_law_1609 rfl ?_
    refine k_if_ne (tgt := 1626) S.1 dL_law_1611 (by decide) hk (fun c1611 => ?_) (fun c1611 => ?_)
    · refine k_goto (tgt := 2074) S.1 dL_law_1626 (by decide) ?_
      exact kk _ _ hp1593
    · obtain ⟨g, hg, g0⟩ := MC (by omega) h1593 hp1593
      refine k_aload_n S.1 dL_law_1614 rfl ?_
      refine k_iconst S.1 dL_law_1615 ?_
      refine k_laload S.1 dL_law_1616 hg (by omega) ?_
      refine k_iload S.1 dL_law_1617 rfl ?_
      refine k_i2l S.1 dL_law_1619 hr ?_
      refine k_lcmp S.1 dL_law_1620 (by rw [show ((0 : Int)).toNat = 0 from rfl, g0]; omega) (by omega) ?_
      rw [show ((0 : Int)).toNat = 0 from rfl, g0, if_neg (by omega), if_pos rfl]
      refine k_if_eq (tgt := 1626) S.1 dL_law_1621 (by decide) (by omega) (fun c1621 => ?_) (fun c1621 => ?_)
      · refine k_goto (tgt := 2074) S.1 dL_law_1626 (by decide) ?_
        exact kk _ _ hp1593
      · exact absurd rfl c1621
  · exact absurd rfl c1604
/-- erase -/
theorem r_erase (S : LWk K KX D mc ms b0 L X9) {i : Nat} (hi : (i : Int) + 4 ≤ L) {h : GH} {x mo out od a b : Nat} {l6 l7 : Option GV} {fs : List GV} (hx : h x = some (gObj 7 fs)) {k r : Int} {dw mcw msw dm : Nat} {Pw Pm : GH → Prop} (MW : GMet D yL_erase cL_erase 3 (some .int) [(0, 8, 11, 67)] dw mcw msw [gR (some x), gR (some out)] h (pr (gI k) Pw)) (MM : ∀ h1, Pw h1 → (∃ gs, h1 mo = some (gObj 8 gs)) ∧ GMet D yX8_erase cX8_erase 3 (some .char) [] dm 0 0 [gR (some mo)] h1 (pr (gI r) Pm)) (MT : ∀ h2, Pm h2 → (∃ gs, h2 mo = some (gObj 8 gs)) ∧ GMet D yX8_thrown cX8_thrown 1 (some .int) [] 1 0 0 [gR (some mo)] h2 (pr (gI k) (fun h3 => h3 = h2))) (MC : k = 0 → ∀ h2, Pm h2 → ∃ g, h2 out = some (gArrL 3 1 g) ∧ g 0 = r) (hk : -2147483648 ≤ k ∧ k < 2147483648) (hr : -2147483648 ≤ r ∧ r < 2147483648) (hdw : dw < 2048) (hdm : dm < 2048) (ha : a + mcw ≤ mc) (hb : b + msw ≤ ms) (kk : ∀ (h2 : GH) (l7 : Option GV), Pm h2 → K 2074 [some (gR (some b0)), some (gR (some x)), some (gR (some mo)), some (gR (some out)), some (gR (some od)), some (gI i), some (gI k), l7] [] h2 (a + mcw) (b + msw)) : K 1629 [some (gR (some b0)), some (gR (some x)), some (gR (some mo)), some (gR (some out)), some (gR (some od)), some (gI i), l6, l7] [] h a b := by
  refine k_aload_n S.1 dL_law_1629 rfl ?_
  refine k_aload_n S.1 dL_law_1630 rfl ?_
  refine k_callS_r S.1 dL_law_1631 s_L_201 MW (fun h1631 hp1631 => ?_) rfl rfl (by omega) (by omega) (by omega) (Nat.le_of_ble_eq_true rfl)
  obtain ⟨⟨gs, hm⟩, MM⟩ := MM h1631 hp1631
  refine k_istore S.1 dL_law_1634 (by decide) ?_
  refine k_aload_n S.1 dL_law_1636 rfl ?_
  refine k_callV_r S.1 dL_law_1637 v_L_204 MM (by assumption) (fun h1637 hp1637 => ?_) rfl rfl (by omega) (by omega) (by omega) (Nat.le_of_ble_eq_true rfl)
  obtain ⟨⟨gs2, hm2⟩, MT⟩ := MT h1637 hp1637
  refine k_istore S.1 dL_law_1640 (by decide) ?_
  refine k_aload_n S.1 dL_law_1642 rfl ?_
  refine k_callV_r S.1 dL_law_1643 v_L_127 MT (by assumption) (fun h1643 hp1643 => ?_) rfl rfl (by omega) (by omega) (by omega) (Nat.le_of_ble_eq_true rfl)
  rw [hp1643]
  refine k_iload S.1 dL_law_1646 rfl ?_
  refine k_icmp_eq (tgt := 1653) S.1 dL_law_1648 (by decide) hk hk (fun c1648 => ?_) (fun c1648 => ?_)
  · refine k_iload S.1 dL_law_1653 rfl ?_
    refine k_if_ne (tgt := 1670) S.1 dL_law_1655 (by decide) hk (fun c1655 => ?_) (fun c1655 => ?_)
    · refine k_goto (tgt := 2074) S.1 dL_law_1670 (by decide) ?_
      exact kk _ _ hp1637
    · obtain ⟨g, hg, g0⟩ := MC (by omega) h1637 hp1637
      refine k_aload_n S.1 dL_law_1658 rfl ?_
      refine k_iconst S.1 dL_law_1659 ?_
      refine k_laload S.1 dL_law_1660 hg (by omega) ?_
      refine k_iload S.1 dL_law_1661 rfl ?_
      refine k_i2l S.1 dL_law_1663 hr ?_
      refine k_lcmp S.1 dL_law_1664 (by rw [show ((0 : Int)).toNat = 0 from rfl, g0]; omega) (by omega) ?_
      rw [show ((0 : Int)).toNat = 0 from rfl, g0, if_neg (by omega), if_pos rfl]
      refine k_if_eq (tgt := 1670) S.1 dL_law_1665 (by decide) (by omega) (fun c1665 => ?_) (fun c1665 => ?_)
      · refine k_goto (tgt := 2074) S.1 dL_law_1670 (by decide) ?_
        exact kk _ _ hp1637
      · exact absurd rfl c1665
  · exact absurd rfl c1648
/-- moveCaret -/
theorem r_moveCaret (S : LWk K KX D mc ms b0 L X9) {i : Nat} (hi : (i : Int) + 4 ≤ L) {h : GH} {x mo out od a b : Nat} {l6 l7 : Option GV} {fs : List GV} (hx : h x = some (gObj 7 fs)) {k r : Int} {dw mcw msw dm : Nat} {Pw Pm : GH → Prop} (MW : GMet D yL_moveCaret cL_moveCaret 4 (some .int) [(0, 9, 12, 21)] dw mcw msw [gR (some x), gI (X9 (((i : Nat) : Int) + 1)), gR (some out)] h (pr (gI k) Pw)) (MM : ∀ h1, Pw h1 → (∃ gs, h1 mo = some (gObj 8 gs)) ∧ GMet D yX8_moveCaret cX8_moveCaret 2 (some .int) [] dm 0 0 [gR (some mo), gI (X9 (((i : Nat) : Int) + 1))] h1 (pr (gI r) Pm)) (MT : ∀ h2, Pm h2 → (∃ gs, h2 mo = some (gObj 8 gs)) ∧ GMet D yX8_thrown cX8_thrown 1 (some .int) [] 1 0 0 [gR (some mo)] h2 (pr (gI k) (fun h3 => h3 = h2))) (MC : k = 0 → ∀ h2, Pm h2 → ∃ g, h2 out = some (gArrL 3 1 g) ∧ g 0 = r) (hk : -2147483648 ≤ k ∧ k < 2147483648) (hr : -2147483648 ≤ r ∧ r < 2147483648) (hdw : dw < 2048) (hdm : dm < 2048) (ha : a + mcw ≤ mc) (hb : b + msw ≤ ms) (kk : ∀ (h2 : GH) (l7 : Option GV), Pm h2 → K 2074 [some (gR (some b0)), some (gR (some x)), some (gR (some mo)), some (gR (some out)), some (gR (some od)), some (gI i), some (gI k), l7] [] h2 (a + mcw) (b + msw)) : K 1673 [some (gR (some b0)), some (gR (some x)), some (gR (some mo)), some (gR (some out)), some (gR (some od)), some (gI i), l6, l7] [] h a b := by
  refine k_aload_n S.1 dL_law_1673 rfl ?_
  refine k_aload_n S.1 dL_law_1674 rfl ?_
  refine k_iload S.1 dL_law_1675 rfl ?_
  refine k_iconst S.1 dL_law_1677 ?_
  refine k_iadd S.1 dL_law_1678 ?_
  refine S.2.1 dL_law_1679 (by omega) ?_
  refine k_aload_n S.1 dL_law_1680 rfl ?_
  refine k_callS_r S.1 dL_law_1681 s_L_205 MW (fun h1681 hp1681 => ?_) rfl rfl (by omega) (by omega) (by omega) (Nat.le_of_ble_eq_true rfl)
  obtain ⟨⟨gs, hm⟩, MM⟩ := MM h1681 hp1681
  refine k_istore S.1 dL_law_1684 (by decide) ?_
  refine k_aload_n S.1 dL_law_1686 rfl ?_
  refine k_aload_n S.1 dL_law_1687 rfl ?_
  refine k_iload S.1 dL_law_1688 rfl ?_
  refine k_iconst S.1 dL_law_1690 ?_
  refine k_iadd S.1 dL_law_1691 ?_
  refine S.2.1 dL_law_1692 (by omega) ?_
  refine k_callV_r S.1 dL_law_1693 v_L_207 MM (by assumption) (fun h1693 hp1693 => ?_) rfl rfl (by omega) (by omega) (by omega) (Nat.le_of_ble_eq_true rfl)
  obtain ⟨⟨gs2, hm2⟩, MT⟩ := MT h1693 hp1693
  refine k_istore S.1 dL_law_1696 (by decide) ?_
  refine k_aload_n S.1 dL_law_1698 rfl ?_
  refine k_callV_r S.1 dL_law_1699 v_L_127 MT (by assumption) (fun h1699 hp1699 => ?_) rfl rfl (by omega) (by omega) (by omega) (Nat.le_of_ble_eq_true rfl)
  rw [hp1699]
  refine k_iload S.1 dL_law_1702 rfl ?_
  refine k_icmp_eq (tgt := 1709) S.1 dL_law_1704 (by decide) hk hk (fun c1704 => ?_) (fun c1704 => ?_)
  · refine k_iload S.1 dL_law_1709 rfl ?_
    refine k_if_ne (tgt := 1726) S.1 dL_law_1711 (by decide) hk (fun c1711 => ?_) (fun c1711 => ?_)
    · refine k_goto (tgt := 2074) S.1 dL_law_1726 (by decide) ?_
      exact kk _ _ hp1693
    · obtain ⟨g, hg, g0⟩ := MC (by omega) h1693 hp1693
      refine k_aload_n S.1 dL_law_1714 rfl ?_
      refine k_iconst S.1 dL_law_1715 ?_
      refine k_laload S.1 dL_law_1716 hg (by omega) ?_
      refine k_iload S.1 dL_law_1717 rfl ?_
      refine k_i2l S.1 dL_law_1719 hr ?_
      refine k_lcmp S.1 dL_law_1720 (by rw [show ((0 : Int)).toNat = 0 from rfl, g0]; omega) (by omega) ?_
      rw [show ((0 : Int)).toNat = 0 from rfl, g0, if_neg (by omega), if_pos rfl]
      refine k_if_eq (tgt := 1726) S.1 dL_law_1721 (by decide) (by omega) (fun c1721 => ?_) (fun c1721 => ?_)
      · refine k_goto (tgt := 2074) S.1 dL_law_1726 (by decide) ?_
        exact kk _ _ hp1693
      · exact absurd rfl c1721
  · exact absurd rfl c1704
/-- nextStop -/
theorem r_nextStop (S : LWk K KX D mc ms b0 L X9) {i : Nat} (hi : (i : Int) + 4 ≤ L) {h : GH} {x mo out od a b : Nat} {l6 l7 : Option GV} {fs : List GV} (hx : h x = some (gObj 7 fs)) {k r : Int} {dw mcw msw dm : Nat} {Pw Pm : GH → Prop} (MW : GMet D yL_nextStop cL_nextStop 3 (some .int) [(0, 8, 11, 67)] dw mcw msw [gR (some x), gR (some out)] h (pr (gI k) Pw)) (MM : ∀ h1, Pw h1 → (∃ gs, h1 mo = some (gObj 8 gs)) ∧ GMet D yX8_nextStop cX8_nextStop 2 (some .int) [] dm 0 0 [gR (some mo)] h1 (pr (gI r) Pm)) (MT : ∀ h2, Pm h2 → (∃ gs, h2 mo = some (gObj 8 gs)) ∧ GMet D yX8_thrown cX8_thrown 1 (some .int) [] 1 0 0 [gR (some mo)] h2 (pr (gI k) (fun h3 => h3 = h2))) (MC : k = 0 → ∀ h2, Pm h2 → ∃ g, h2 out = some (gArrL 3 1 g) ∧ g 0 = r) (hk : -2147483648 ≤ k ∧ k < 2147483648) (hr : -2147483648 ≤ r ∧ r < 2147483648) (hdw : dw < 2048) (hdm : dm < 2048) (ha : a + mcw ≤ mc) (hb : b + msw ≤ ms) (kk : ∀ (h2 : GH) (l7 : Option GV), Pm h2 → K 2074 [some (gR (some b0)), some (gR (some x)), some (gR (some mo)), some (gR (some out)), some (gR (some od)), some (gI i), some (gI k), l7] [] h2 (a + mcw) (b + msw)) : K 1729 [some (gR (some b0)), some (gR (some x)), some (gR (some mo)), some (gR (some out)), some (gR (some od)), some (gI i), l6, l7] [] h a b := by
  refine k_aload_n S.1 dL_law_1729 rfl ?_
  refine k_aload_n S.1 dL_law_1730 rfl ?_
  refine k_callS_r S.1 dL_law_1731 s_L_208 MW (fun h1731 hp1731 => ?_) rfl rfl (by omega) (by omega) (by omega) (Nat.le_of_ble_eq_true rfl)
  obtain ⟨⟨gs, hm⟩, MM⟩ := MM h1731 hp1731
  refine k_istore S.1 dL_law_1734 (by decide) ?_
  refine k_aload_n S.1 dL_law_1736 rfl ?_
  refine k_callV_r S.1 dL_law_1737 v_L_210 MM (by assumption) (fun h1737 hp1737 => ?_) rfl rfl (by omega) (by omega) (by omega) (Nat.le_of_ble_eq_true rfl)
  obtain ⟨⟨gs2, hm2⟩, MT⟩ := MT h1737 hp1737
  refine k_istore S.1 dL_law_1740 (by decide) ?_
  refine k_aload_n S.1 dL_law_1742 rfl ?_
  refine k_callV_r S.1 dL_law_1743 v_L_127 MT (by assumption) (fun h1743 hp1743 => ?_) rfl rfl (by omega) (by omega) (by omega) (Nat.le_of_ble_eq_true rfl)
  rw [hp1743]
  refine k_iload S.1 dL_law_1746 rfl ?_
  refine k_icmp_eq (tgt := 1753) S.1 dL_law_1748 (by decide) hk hk (fun c1748 => ?_) (fun c1748 => ?_)
  · refine k_iload S.1 dL_law_1753 rfl ?_
    refine k_if_ne (tgt := 1770) S.1 dL_law_1755 (by decide) hk (fun c1755 => ?_) (fun c1755 => ?_)
    · refine k_goto (tgt := 2074) S.1 dL_law_1770 (by decide) ?_
      exact kk _ _ hp1737
    · obtain ⟨g, hg, g0⟩ := MC (by omega) h1737 hp1737
      refine k_aload_n S.1 dL_law_1758 rfl ?_
      refine k_iconst S.1 dL_law_1759 ?_
      refine k_laload S.1 dL_law_1760 hg (by omega) ?_
      refine k_iload S.1 dL_law_1761 rfl ?_
      refine k_i2l S.1 dL_law_1763 hr ?_
      refine k_lcmp S.1 dL_law_1764 (by rw [show ((0 : Int)).toNat = 0 from rfl, g0]; omega) (by omega) ?_
      rw [show ((0 : Int)).toNat = 0 from rfl, g0, if_neg (by omega), if_pos rfl]
      refine k_if_eq (tgt := 1770) S.1 dL_law_1765 (by decide) (by omega) (fun c1765 => ?_) (fun c1765 => ?_)
      · refine k_goto (tgt := 2074) S.1 dL_law_1770 (by decide) ?_
        exact kk _ _ hp1737
      · exact absurd rfl c1765
  · exact absurd rfl c1748
/-- undo -/
theorem r_undo (S : LWk K KX D mc ms b0 L X9) {i : Nat} (hi : (i : Int) + 4 ≤ L) {h : GH} {x mo out od a b : Nat} {l6 l7 : Option GV} {fs : List GV} (hx : h x = some (gObj 7 fs)) {k r : Int} {dw mcw msw dm : Nat} {Pw Pm : GH → Prop} (MW : GMet D yL_undo cL_undo 3 (some .int) [(0, 8, 11, 13)] dw mcw msw [gR (some x), gR (some out)] h (pr (gI k) Pw)) (MM : ∀ h1, Pw h1 → (∃ gs, h1 mo = some (gObj 8 gs)) ∧ GMet D yX8_undo cX8_undo 2 (some .int) [] dm 0 0 [gR (some mo)] h1 (pr (gI r) Pm)) (MT : ∀ h2, Pm h2 → (∃ gs, h2 mo = some (gObj 8 gs)) ∧ GMet D yX8_thrown cX8_thrown 1 (some .int) [] 1 0 0 [gR (some mo)] h2 (pr (gI k) (fun h3 => h3 = h2))) (MC : k = 0 → ∀ h2, Pm h2 → ∃ g, h2 out = some (gArrL 3 1 g) ∧ g 0 = r) (hk : -2147483648 ≤ k ∧ k < 2147483648) (hr : -2147483648 ≤ r ∧ r < 2147483648) (hdw : dw < 2048) (hdm : dm < 2048) (ha : a + mcw ≤ mc) (hb : b + msw ≤ ms) (kk : ∀ (h2 : GH) (l7 : Option GV), Pm h2 → K 2074 [some (gR (some b0)), some (gR (some x)), some (gR (some mo)), some (gR (some out)), some (gR (some od)), some (gI i), some (gI k), l7] [] h2 (a + mcw) (b + msw)) : K 1773 [some (gR (some b0)), some (gR (some x)), some (gR (some mo)), some (gR (some out)), some (gR (some od)), some (gI i), l6, l7] [] h a b := by
  refine k_aload_n S.1 dL_law_1773 rfl ?_
  refine k_aload_n S.1 dL_law_1774 rfl ?_
  refine k_callS_r S.1 dL_law_1775 s_L_211 MW (fun h1775 hp1775 => ?_) rfl rfl (by omega) (by omega) (by omega) (Nat.le_of_ble_eq_true rfl)
  obtain ⟨⟨gs, hm⟩, MM⟩ := MM h1775 hp1775
  refine k_istore S.1 dL_law_1778 (by decide) ?_
  refine k_aload_n S.1 dL_law_1780 rfl ?_
  refine k_callV_r S.1 dL_law_1781 v_L_213 MM (by assumption) (fun h1781 hp1781 => ?_) rfl rfl (by omega) (by omega) (by omega) (Nat.le_of_ble_eq_true rfl)
  obtain ⟨⟨gs2, hm2⟩, MT⟩ := MT h1781 hp1781
  refine k_istore S.1 dL_law_1784 (by decide) ?_
  refine k_aload_n S.1 dL_law_1786 rfl ?_
  refine k_callV_r S.1 dL_law_1787 v_L_127 MT (by assumption) (fun h1787 hp1787 => ?_) rfl rfl (by omega) (by omega) (by omega) (Nat.le_of_ble_eq_true rfl)
  rw [hp1787]
  refine k_iload S.1 dL_law_1790 rfl ?_
  refine k_icmp_eq (tgt := 1797) S.1 dL_law_1792 (by decide) hk hk (fun c1792 => ?_) (fun c1792 => ?_)
  · refine k_iload S.1 dL_law_1797 rfl ?_
    refine k_if_ne (tgt := 1814) S.1 dL_law_1799 (by decide) hk (fun c1799 => ?_) (fun c1799 => ?_)
    · refine k_goto (tgt := 2074) S.1 dL_law_1814 (by decide) ?_
      exact kk _ _ hp1781
    · obtain ⟨g, hg, g0⟩ := MC (by omega) h1781 hp1781
      refine k_aload_n S.1 dL_law_1802 rfl ?_
      refine k_iconst S.1 dL_law_1803 ?_
      refine k_laload S.1 dL_law_1804 hg (by omega) ?_
      refine k_iload S.1 dL_law_1805 rfl ?_
      refine k_i2l S.1 dL_law_1807 hr ?_
      refine k_lcmp S.1 dL_law_1808 (by rw [show ((0 : Int)).toNat = 0 from rfl, g0]; omega) (by omega) ?_
      rw [show ((0 : Int)).toNat = 0 from rfl, g0, if_neg (by omega), if_pos rfl]
      refine k_if_eq (tgt := 1814) S.1 dL_law_1809 (by decide) (by omega) (fun c1809 => ?_) (fun c1809 => ?_)
      · refine k_goto (tgt := 2074) S.1 dL_law_1814 (by decide) ?_
        exact kk _ _ hp1781
      · exact absurd rfl c1809
  · exact absurd rfl c1792
/-- length -/
theorem r_length (S : LWk K KX D mc ms b0 L X9) {i : Nat} {h : GH} {x mo out od a b : Nat} {l6 l7 : Option GV} {fs gs : List GV} (hx : h x = some (gObj 7 fs)) (hm : h mo = some (gObj 8 gs)) {v : Int} (hv : -2147483648 ≤ v ∧ v < 2147483648) {d1 d2 : Nat} (M1 : GMet D yX7_length cX7_length 1 (some .int) [] d1 0 0 [gR (some x)] h (pr (gI v) (fun h1 => h1 = h))) (M2 : GMet D yX8_length cX8_length 1 (some .int) [] d2 0 0 [gR (some mo)] h (pr (gI v) (fun h1 => h1 = h))) (hd1 : d1 < 2048) (hd2 : d2 < 2048) (ha : a ≤ mc) (hb : b ≤ ms) (kk : K 2074 [some (gR (some b0)), some (gR (some x)), some (gR (some mo)), some (gR (some out)), some (gR (some od)), some (gI i), l6, l7] [] h a b) : K 1817 [some (gR (some b0)), some (gR (some x)), some (gR (some mo)), some (gR (some out)), some (gR (some od)), some (gI i), l6, l7] [] h a b := by
  refine k_aload_n S.1 dL_law_1817 rfl ?_
  refine k_callV_r S.1 dL_law_1818 v_L_214 M1 (by assumption) (fun h1818 hp1818 => ?_) rfl rfl (by omega) (by omega) (by omega) (Nat.le_of_ble_eq_true rfl)
  rw [hp1818]
  refine k_aload_n S.1 dL_law_1821 rfl ?_
  refine k_callV_r S.1 dL_law_1822 v_L_217 M2 (by assumption) (fun h1822 hp1822 => ?_) rfl rfl (by omega) (by omega) (by omega) (Nat.le_of_ble_eq_true rfl)
  rw [hp1822]
  refine k_icmp_eq (tgt := 2074) S.1 dL_law_1825 (by decide) hv hv (fun c1825 => ?_) (fun c1825 => ?_)
  · exact kk
  · exact absurd rfl c1825
/-- characterAt -/
theorem r_characterAt (S : LWk K KX D mc ms b0 L X9) {i : Nat} (hi : (i : Int) + 4 ≤ L) {h : GH} {x mo out od a b : Nat} {l6 l7 : Option GV} {fs : List GV} (hx : h x = some (gObj 7 fs)) {k r : Int} {dw mcw msw dm : Nat} {Pw Pm : GH → Prop} (MW : GMet D yL_characterAt cL_characterAt 4 (some .int) [(0, 9, 12, 19)] dw mcw msw [gR (some x), gI (X9 (((i : Nat) : Int) + 1)), gR (some out)] h (pr (gI k) Pw)) (MM : ∀ h1, Pw h1 → (∃ gs, h1 mo = some (gObj 8 gs)) ∧ GMet D yX8_characterAt cX8_characterAt 2 (some .char) [] dm 0 0 [gR (some mo), gI (X9 (((i : Nat) : Int) + 1))] h1 (pr (gI r) Pm)) (MT : ∀ h2, Pm h2 → (∃ gs, h2 mo = some (gObj 8 gs)) ∧ GMet D yX8_thrown cX8_thrown 1 (some .int) [] 1 0 0 [gR (some mo)] h2 (pr (gI k) (fun h3 => h3 = h2))) (MC : k = 0 → ∀ h2, Pm h2 → ∃ g, h2 out = some (gArrL 3 1 g) ∧ g 0 = r) (hk : -2147483648 ≤ k ∧ k < 2147483648) (hr : -2147483648 ≤ r ∧ r < 2147483648) (hdw : dw < 2048) (hdm : dm < 2048) (ha : a + mcw ≤ mc) (hb : b + msw ≤ ms) (kk : ∀ (h2 : GH) (l7 : Option GV), Pm h2 → K 2074 [some (gR (some b0)), some (gR (some x)), some (gR (some mo)), some (gR (some out)), some (gR (some od)), some (gI i), some (gI k), l7] [] h2 (a + mcw) (b + msw)) : K 1830 [some (gR (some b0)), some (gR (some x)), some (gR (some mo)), some (gR (some out)), some (gR (some od)), some (gI i), l6, l7] [] h a b := by
  refine k_aload_n S.1 dL_law_1830 rfl ?_
  refine k_aload_n S.1 dL_law_1831 rfl ?_
  refine k_iload S.1 dL_law_1832 rfl ?_
  refine k_iconst S.1 dL_law_1834 ?_
  refine k_iadd S.1 dL_law_1835 ?_
  refine S.2.1 dL_law_1836 (by omega) ?_
  refine k_aload_n S.1 dL_law_1837 rfl ?_
  refine k_callS_r S.1 dL_law_1838 s_L_218 MW (fun h1838 hp1838 => ?_) rfl rfl (by omega) (by omega) (by omega) (Nat.le_of_ble_eq_true rfl)
  obtain ⟨⟨gs, hm⟩, MM⟩ := MM h1838 hp1838
  refine k_istore S.1 dL_law_1841 (by decide) ?_
  refine k_aload_n S.1 dL_law_1843 rfl ?_
  refine k_aload_n S.1 dL_law_1844 rfl ?_
  refine k_iload S.1 dL_law_1845 rfl ?_
  refine k_iconst S.1 dL_law_1847 ?_
  refine k_iadd S.1 dL_law_1848 ?_
  refine S.2.1 dL_law_1849 (by omega) ?_
  refine k_callV_r S.1 dL_law_1850 v_L_220 MM (by assumption) (fun h1850 hp1850 => ?_) rfl rfl (by omega) (by omega) (by omega) (Nat.le_of_ble_eq_true rfl)
  obtain ⟨⟨gs2, hm2⟩, MT⟩ := MT h1850 hp1850
  refine k_istore S.1 dL_law_1853 (by decide) ?_
  refine k_aload_n S.1 dL_law_1855 rfl ?_
  refine k_callV_r S.1 dL_law_1856 v_L_127 MT (by assumption) (fun h1856 hp1856 => ?_) rfl rfl (by omega) (by omega) (by omega) (Nat.le_of_ble_eq_true rfl)
  rw [hp1856]
  refine k_iload S.1 dL_law_1859 rfl ?_
  refine k_icmp_eq (tgt := 1866) S.1 dL_law_1861 (by decide) hk hk (fun c1861 => ?_) (fun c1861 => ?_)
  · refine k_iload S.1 dL_law_1866 rfl ?_
    refine k_if_ne (tgt := 1883) S.1 dL_law_1868 (by decide) hk (fun c1868 => ?_) (fun c1868 => ?_)
    · refine k_goto (tgt := 2074) S.1 dL_law_1883 (by decide) ?_
      exact kk _ _ hp1850
    · obtain ⟨g, hg, g0⟩ := MC (by omega) h1850 hp1850
      refine k_aload_n S.1 dL_law_1871 rfl ?_
      refine k_iconst S.1 dL_law_1872 ?_
      refine k_laload S.1 dL_law_1873 hg (by omega) ?_
      refine k_iload S.1 dL_law_1874 rfl ?_
      refine k_i2l S.1 dL_law_1876 hr ?_
      refine k_lcmp S.1 dL_law_1877 (by rw [show ((0 : Int)).toNat = 0 from rfl, g0]; omega) (by omega) ?_
      rw [show ((0 : Int)).toNat = 0 from rfl, g0, if_neg (by omega), if_pos rfl]
      refine k_if_eq (tgt := 1883) S.1 dL_law_1878 (by decide) (by omega) (fun c1878 => ?_) (fun c1878 => ?_)
      · refine k_goto (tgt := 2074) S.1 dL_law_1883 (by decide) ?_
        exact kk _ _ hp1850
      · exact absurd rfl c1878
  · exact absurd rfl c1861
/-- caret -/
theorem r_caret (S : LWk K KX D mc ms b0 L X9) {i : Nat} {h : GH} {x mo out od a b : Nat} {l6 l7 : Option GV} {fs gs : List GV} (hx : h x = some (gObj 7 fs)) (hm : h mo = some (gObj 8 gs)) {v : Int} (hv : -2147483648 ≤ v ∧ v < 2147483648) {d1 d2 : Nat} (M1 : GMet D yX7_caret cX7_caret 1 (some .int) [] d1 0 0 [gR (some x)] h (pr (gI v) (fun h1 => h1 = h))) (M2 : GMet D yX8_caret cX8_caret 1 (some .int) [] d2 0 0 [gR (some mo)] h (pr (gI v) (fun h1 => h1 = h))) (hd1 : d1 < 2048) (hd2 : d2 < 2048) (ha : a ≤ mc) (hb : b ≤ ms) (kk : K 2074 [some (gR (some b0)), some (gR (some x)), some (gR (some mo)), some (gR (some out)), some (gR (some od)), some (gI i), l6, l7] [] h a b) : K 1886 [some (gR (some b0)), some (gR (some x)), some (gR (some mo)), some (gR (some out)), some (gR (some od)), some (gI i), l6, l7] [] h a b := by
  refine k_aload_n S.1 dL_law_1886 rfl ?_
  refine k_callV_r S.1 dL_law_1887 v_L_221 M1 (by assumption) (fun h1887 hp1887 => ?_) rfl rfl (by omega) (by omega) (by omega) (Nat.le_of_ble_eq_true rfl)
  rw [hp1887]
  refine k_aload_n S.1 dL_law_1890 rfl ?_
  refine k_callV_r S.1 dL_law_1891 v_L_224 M2 (by assumption) (fun h1891 hp1891 => ?_) rfl rfl (by omega) (by omega) (by omega) (Nat.le_of_ble_eq_true rfl)
  rw [hp1891]
  refine k_icmp_eq (tgt := 2074) S.1 dL_law_1894 (by decide) hv hv (fun c1894 => ?_) (fun c1894 => ?_)
  · exact kk
  · exact absurd rfl c1894
/-- stops -/
theorem r_stops (S : LWk K KX D mc ms b0 L X9) {i : Nat} {h : GH} {x mo out od a b : Nat} {l6 l7 : Option GV} {fs gs : List GV} (hx : h x = some (gObj 7 fs)) (hm : h mo = some (gObj 8 gs)) {v : Int} (hv : -2147483648 ≤ v ∧ v < 2147483648) {d1 d2 : Nat} (M1 : GMet D yX7_stops cX7_stops 1 (some .int) [] d1 0 0 [gR (some x)] h (pr (gI v) (fun h1 => h1 = h))) (M2 : GMet D yX8_stops cX8_stops 1 (some .int) [] d2 0 0 [gR (some mo)] h (pr (gI v) (fun h1 => h1 = h))) (hd1 : d1 < 2048) (hd2 : d2 < 2048) (ha : a ≤ mc) (hb : b ≤ ms) (kk : K 2074 [some (gR (some b0)), some (gR (some x)), some (gR (some mo)), some (gR (some out)), some (gR (some od)), some (gI i), l6, l7] [] h a b) : K 1899 [some (gR (some b0)), some (gR (some x)), some (gR (some mo)), some (gR (some out)), some (gR (some od)), some (gI i), l6, l7] [] h a b := by
  refine k_aload_n S.1 dL_law_1899 rfl ?_
  refine k_callV_r S.1 dL_law_1900 v_L_225 M1 (by assumption) (fun h1900 hp1900 => ?_) rfl rfl (by omega) (by omega) (by omega) (Nat.le_of_ble_eq_true rfl)
  rw [hp1900]
  refine k_aload_n S.1 dL_law_1903 rfl ?_
  refine k_callV_r S.1 dL_law_1904 v_L_228 M2 (by assumption) (fun h1904 hp1904 => ?_) rfl rfl (by omega) (by omega) (by omega) (Nat.le_of_ble_eq_true rfl)
  rw [hp1904]
  refine k_icmp_eq (tgt := 2074) S.1 dL_law_1907 (by decide) hv hv (fun c1907 => ?_) (fun c1907 => ?_)
  · exact kk
  · exact absurd rfl c1907
/-- stopAt -/
theorem r_stopAt (S : LWk K KX D mc ms b0 L X9) {i : Nat} (hi : (i : Int) + 4 ≤ L) {h : GH} {x mo out od a b : Nat} {l6 l7 : Option GV} {fs : List GV} (hx : h x = some (gObj 7 fs)) {k r : Int} {dw mcw msw dm : Nat} {Pw Pm : GH → Prop} (MW : GMet D yL_stopAt cL_stopAt 4 (some .int) [(0, 9, 12, 19)] dw mcw msw [gR (some x), gI (X9 (((i : Nat) : Int) + 1)), gR (some out)] h (pr (gI k) Pw)) (MM : ∀ h1, Pw h1 → (∃ gs, h1 mo = some (gObj 8 gs)) ∧ GMet D yX8_stopAt cX8_stopAt 2 (some .int) [] dm 0 0 [gR (some mo), gI (X9 (((i : Nat) : Int) + 1))] h1 (pr (gI r) Pm)) (MT : ∀ h2, Pm h2 → (∃ gs, h2 mo = some (gObj 8 gs)) ∧ GMet D yX8_thrown cX8_thrown 1 (some .int) [] 1 0 0 [gR (some mo)] h2 (pr (gI k) (fun h3 => h3 = h2))) (MC : k = 0 → ∀ h2, Pm h2 → ∃ g, h2 out = some (gArrL 3 1 g) ∧ g 0 = r) (hk : -2147483648 ≤ k ∧ k < 2147483648) (hr : -2147483648 ≤ r ∧ r < 2147483648) (hdw : dw < 2048) (hdm : dm < 2048) (ha : a + mcw ≤ mc) (hb : b + msw ≤ ms) (kk : ∀ (h2 : GH) (l7 : Option GV), Pm h2 → K 2074 [some (gR (some b0)), some (gR (some x)), some (gR (some mo)), some (gR (some out)), some (gR (some od)), some (gI i), some (gI k), l7] [] h2 (a + mcw) (b + msw)) : K 1912 [some (gR (some b0)), some (gR (some x)), some (gR (some mo)), some (gR (some out)), some (gR (some od)), some (gI i), l6, l7] [] h a b := by
  refine k_aload_n S.1 dL_law_1912 rfl ?_
  refine k_aload_n S.1 dL_law_1913 rfl ?_
  refine k_iload S.1 dL_law_1914 rfl ?_
  refine k_iconst S.1 dL_law_1916 ?_
  refine k_iadd S.1 dL_law_1917 ?_
  refine S.2.1 dL_law_1918 (by omega) ?_
  refine k_aload_n S.1 dL_law_1919 rfl ?_
  refine k_callS_r S.1 dL_law_1920 s_L_229 MW (fun h1920 hp1920 => ?_) rfl rfl (by omega) (by omega) (by omega) (Nat.le_of_ble_eq_true rfl)
  obtain ⟨⟨gs, hm⟩, MM⟩ := MM h1920 hp1920
  refine k_istore S.1 dL_law_1923 (by decide) ?_
  refine k_aload_n S.1 dL_law_1925 rfl ?_
  refine k_aload_n S.1 dL_law_1926 rfl ?_
  refine k_iload S.1 dL_law_1927 rfl ?_
  refine k_iconst S.1 dL_law_1929 ?_
  refine k_iadd S.1 dL_law_1930 ?_
  refine S.2.1 dL_law_1931 (by omega) ?_
  refine k_callV_r S.1 dL_law_1932 v_L_231 MM (by assumption) (fun h1932 hp1932 => ?_) rfl rfl (by omega) (by omega) (by omega) (Nat.le_of_ble_eq_true rfl)
  obtain ⟨⟨gs2, hm2⟩, MT⟩ := MT h1932 hp1932
  refine k_istore S.1 dL_law_1935 (by decide) ?_
  refine k_aload_n S.1 dL_law_1937 rfl ?_
  refine k_callV_r S.1 dL_law_1938 v_L_127 MT (by assumption) (fun h1938 hp1938 => ?_) rfl rfl (by omega) (by omega) (by omega) (Nat.le_of_ble_eq_true rfl)
  rw [hp1938]
  refine k_iload S.1 dL_law_1941 rfl ?_
  refine k_icmp_eq (tgt := 1948) S.1 dL_law_1943 (by decide) hk hk (fun c1943 => ?_) (fun c1943 => ?_)
  · refine k_iload S.1 dL_law_1948 rfl ?_
    refine k_if_ne (tgt := 1965) S.1 dL_law_1950 (by decide) hk (fun c1950 => ?_) (fun c1950 => ?_)
    · refine k_goto (tgt := 2074) S.1 dL_law_1965 (by decide) ?_
      exact kk _ _ hp1932
    · obtain ⟨g, hg, g0⟩ := MC (by omega) h1932 hp1932
      refine k_aload_n S.1 dL_law_1953 rfl ?_
      refine k_iconst S.1 dL_law_1954 ?_
      refine k_laload S.1 dL_law_1955 hg (by omega) ?_
      refine k_iload S.1 dL_law_1956 rfl ?_
      refine k_i2l S.1 dL_law_1958 hr ?_
      refine k_lcmp S.1 dL_law_1959 (by rw [show ((0 : Int)).toNat = 0 from rfl, g0]; omega) (by omega) ?_
      rw [show ((0 : Int)).toNat = 0 from rfl, g0, if_neg (by omega), if_pos rfl]
      refine k_if_eq (tgt := 1965) S.1 dL_law_1960 (by decide) (by omega) (fun c1960 => ?_) (fun c1960 => ?_)
      · refine k_goto (tgt := 2074) S.1 dL_law_1965 (by decide) ?_
        exact kk _ _ hp1932
      · exact absurd rfl c1960
  · exact absurd rfl c1943
/-- matching -/
theorem r_matching (S : LWk K KX D mc ms b0 L X9) {i : Nat} {h : GH} {x mo out od a b : Nat} {l6 l7 : Option GV} {fs gs : List GV} (hx : h x = some (gObj 7 fs)) (hm : h mo = some (gObj 8 gs)) {v : Int} (hv : -2147483648 ≤ v ∧ v < 2147483648) {d1 d2 : Nat} (M1 : GMet D yX7_matching cX7_matching 1 (some .int) [] d1 0 0 [gR (some x)] h (pr (gI v) (fun h1 => h1 = h))) (M2 : GMet D yX8_matching cX8_matching 3 (some .int) [] d2 0 0 [gR (some mo)] h (pr (gI v) (fun h1 => h1 = h))) (hd1 : d1 < 2048) (hd2 : d2 < 2048) (ha : a ≤ mc) (hb : b ≤ ms) (kk : K 2074 [some (gR (some b0)), some (gR (some x)), some (gR (some mo)), some (gR (some out)), some (gR (some od)), some (gI i), l6, l7] [] h a b) : K 1968 [some (gR (some b0)), some (gR (some x)), some (gR (some mo)), some (gR (some out)), some (gR (some od)), some (gI i), l6, l7] [] h a b := by
  refine k_aload_n S.1 dL_law_1968 rfl ?_
  refine k_callV_r S.1 dL_law_1969 v_L_232 M1 (by assumption) (fun h1969 hp1969 => ?_) rfl rfl (by omega) (by omega) (by omega) (Nat.le_of_ble_eq_true rfl)
  rw [hp1969]
  refine k_aload_n S.1 dL_law_1972 rfl ?_
  refine k_callV_r S.1 dL_law_1973 v_L_235 M2 (by assumption) (fun h1973 hp1973 => ?_) rfl rfl (by omega) (by omega) (by omega) (Nat.le_of_ble_eq_true rfl)
  rw [hp1973]
  refine k_icmp_eq (tgt := 2074) S.1 dL_law_1976 (by decide) hv hv (fun c1976 => ?_) (fun c1976 => ?_)
  · exact kk
  · exact absurd rfl c1976
/-- matchingByLooking -/
theorem r_matchingByLooking (S : LWk K KX D mc ms b0 L X9) {i : Nat} {h : GH} {x mo out od a b : Nat} {l6 l7 : Option GV} {fs gs : List GV} (hx : h x = some (gObj 7 fs)) (hm : h mo = some (gObj 8 gs)) {v : Int} (hv : -2147483648 ≤ v ∧ v < 2147483648) {d1 d2 : Nat} (M1 : GMet D yX7_matchingByLooking cX7_matchingByLooking 1 (some .int) [] d1 0 0 [gR (some x)] h (pr (gI v) (fun h1 => h1 = h))) (M2 : GMet D yX8_matchingByLooking cX8_matchingByLooking 1 (some .int) [] d2 0 0 [gR (some mo)] h (pr (gI v) (fun h1 => h1 = h))) (hd1 : d1 < 2048) (hd2 : d2 < 2048) (ha : a ≤ mc) (hb : b ≤ ms) (kk : K 2074 [some (gR (some b0)), some (gR (some x)), some (gR (some mo)), some (gR (some out)), some (gR (some od)), some (gI i), l6, l7] [] h a b) : K 1981 [some (gR (some b0)), some (gR (some x)), some (gR (some mo)), some (gR (some out)), some (gR (some od)), some (gI i), l6, l7] [] h a b := by
  refine k_aload_n S.1 dL_law_1981 rfl ?_
  refine k_callV_r S.1 dL_law_1982 v_L_236 M1 (by assumption) (fun h1982 hp1982 => ?_) rfl rfl (by omega) (by omega) (by omega) (Nat.le_of_ble_eq_true rfl)
  rw [hp1982]
  refine k_aload_n S.1 dL_law_1985 rfl ?_
  refine k_callV_r S.1 dL_law_1986 v_L_239 M2 (by assumption) (fun h1986 hp1986 => ?_) rfl rfl (by omega) (by omega) (by omega) (Nat.le_of_ble_eq_true rfl)
  rw [hp1986]
  refine k_icmp_eq (tgt := 2074) S.1 dL_law_1989 (by decide) hv hv (fun c1989 => ?_) (fun c1989 => ?_)
  · exact kk
  · exact absurd rfl c1989
/-- saved -/
theorem r_saved (S : LWk K KX D mc ms b0 L X9) {i : Nat} {h : GH} {x mo out od a b : Nat} {l6 l7 : Option GV} {fs gs : List GV} (hx : h x = some (gObj 7 fs)) (hm : h mo = some (gObj 8 gs)) {v : Int} (hv : -9223372036854775808 ≤ v ∧ v < 9223372036854775808) {d1 d2 : Nat} (M1 : GMet D yX7_saved cX7_saved 1 (some .long) [] d1 0 0 [gR (some x)] h (pr (gL v) (fun h1 => h1 = h))) (M2 : GMet D yX8_saved cX8_saved 1 (some .long) [] d2 0 0 [gR (some mo)] h (pr (gL v) (fun h1 => h1 = h))) (hd1 : d1 < 2048) (hd2 : d2 < 2048) (ha : a ≤ mc) (hb : b ≤ ms) (kk : K 2074 [some (gR (some b0)), some (gR (some x)), some (gR (some mo)), some (gR (some out)), some (gR (some od)), some (gI i), l6, l7] [] h a b) : K 1994 [some (gR (some b0)), some (gR (some x)), some (gR (some mo)), some (gR (some out)), some (gR (some od)), some (gI i), l6, l7] [] h a b := by
  refine k_aload_n S.1 dL_law_1994 rfl ?_
  refine k_callV_r S.1 dL_law_1995 v_L_240 M1 (by assumption) (fun h1995 hp1995 => ?_) rfl rfl (by omega) (by omega) (by omega) (Nat.le_of_ble_eq_true rfl)
  rw [hp1995]
  refine k_aload_n S.1 dL_law_1998 rfl ?_
  refine k_callV_r S.1 dL_law_1999 v_L_244 M2 (by assumption) (fun h1999 hp1999 => ?_) rfl rfl (by omega) (by omega) (by omega) (Nat.le_of_ble_eq_true rfl)
  rw [hp1999]
  refine k_lcmp S.1 dL_law_2002 hv hv ?_
  rw [if_neg (by omega), if_pos rfl]
  refine k_if_eq (tgt := 2074) S.1 dL_law_2003 (by decide) (by omega) (fun c2003 => ?_) (fun c2003 => ?_)
  · exact kk
  · exact absurd rfl c2003
/-- keptShare -/
theorem r_keptShare (S : LWk K KX D mc ms b0 L X9) {i : Nat} (hi : (i : Int) + 4 ≤ L) {h : GH} {x mo out od a b : Nat} {l6 l7 : Option GV} {fs : List GV} (hx : h x = some (gObj 7 fs)) {k : Int} {u : UInt32} {dw mcw msw dm : Nat} {Pw Pm : GH → Prop} (MW : GMet D yL_keptShare cL_keptShare 3 (some .int) [(0, 8, 11, 67)] dw mcw msw [gR (some x), gR (some od)] h (pr (gI k) Pw)) (MM : ∀ h1, Pw h1 → (∃ gs, h1 mo = some (gObj 8 gs)) ∧ GMet D yX8_keptShare cX8_keptShare 1 (some .float) [] dm 0 0 [gR (some mo)] h1 (pr (gF u) Pm)) (MT : ∀ h2, Pm h2 → (∃ gs, h2 mo = some (gObj 8 gs)) ∧ GMet D yX8_thrown cX8_thrown 1 (some .int) [] 1 0 0 [gR (some mo)] h2 (pr (gI k) (fun h3 => h3 = h2))) (MC : k = 0 → ∀ h2, Pm h2 → ∃ g, h2 od = some (gArrD 4 1 g) ∧ g 0 = FP.f2d u) (hk : -2147483648 ≤ k ∧ k < 2147483648) (hu : vf_n64 (FP.f2d u)) (hcmp : (Op.cmpValue (FP.dcmp (FP.f2d u) (FP.f2d u)) .l).toInt = 0) (hdw : dw < 2048) (hdm : dm < 2048) (ha : a + mcw ≤ mc) (hb : b + msw ≤ ms) (kk : ∀ (h2 : GH) (l7 : Option GV), Pm h2 → K 2074 [some (gR (some b0)), some (gR (some x)), some (gR (some mo)), some (gR (some out)), some (gR (some od)), some (gI i), some (gI k), l7] [] h2 (a + mcw) (b + msw)) : K 2008 [some (gR (some b0)), some (gR (some x)), some (gR (some mo)), some (gR (some out)), some (gR (some od)), some (gI i), l6, l7] [] h a b := by
  refine k_aload_n S.1 dL_law_2008 rfl ?_
  refine k_aload S.1 dL_law_2009 rfl ?_
  refine k_callS_r S.1 dL_law_2011 s_L_245 MW (fun h2011 hp2011 => ?_) rfl rfl (by omega) (by omega) (by omega) (Nat.le_of_ble_eq_true rfl)
  obtain ⟨⟨gs, hm⟩, MM⟩ := MM h2011 hp2011
  refine k_istore S.1 dL_law_2014 (by decide) ?_
  refine k_aload_n S.1 dL_law_2016 rfl ?_
  refine k_callV_r S.1 dL_law_2017 v_L_248 MM (by assumption) (fun h2017 hp2017 => ?_) rfl rfl (by omega) (by omega) (by omega) (Nat.le_of_ble_eq_true rfl)
  obtain ⟨⟨gs2, hm2⟩, MT⟩ := MT h2017 hp2017
  refine k_fstore S.1 dL_law_2020 (by decide) ?_
  refine k_aload_n S.1 dL_law_2022 rfl ?_
  refine k_callV_r S.1 dL_law_2023 v_L_127 MT (by assumption) (fun h2023 hp2023 => ?_) rfl rfl (by omega) (by omega) (by omega) (Nat.le_of_ble_eq_true rfl)
  rw [hp2023]
  refine k_iload S.1 dL_law_2026 rfl ?_
  refine k_icmp_eq (tgt := 2033) S.1 dL_law_2028 (by decide) hk hk (fun c2028 => ?_) (fun c2028 => ?_)
  · refine k_iload S.1 dL_law_2033 rfl ?_
    refine k_if_ne (tgt := 2071) S.1 dL_law_2035 (by decide) hk (fun c2035 => ?_) (fun c2035 => ?_)
    · refine k_goto (tgt := 2074) S.1 dL_law_2071 (by decide) ?_
      exact kk _ _ hp2017
    · obtain ⟨g, hg, g0⟩ := MC (by omega) h2017 hp2017
      refine k_aload S.1 dL_law_2038 rfl ?_
      refine k_iconst S.1 dL_law_2040 ?_
      refine k_daload S.1 dL_law_2041 hg (by omega) ?_
      refine k_fload S.1 dL_law_2042 rfl ?_
      refine k_f2d S.1 dL_law_2044 hu ?_
      refine k_dcmp S.1 dL_law_2045 ?_
      rw [show ((0 : Int)).toNat = 0 from rfl, g0, hcmp]
      refine k_if_eq (tgt := 2071) S.1 dL_law_2046 (by decide) (by omega) (fun c2046 => ?_) (fun c2046 => ?_)
      · refine k_goto (tgt := 2074) S.1 dL_law_2071 (by decide) ?_
        exact kk _ _ hp2017
      · exact absurd rfl c2046
  · exact absurd rfl c2028
end
