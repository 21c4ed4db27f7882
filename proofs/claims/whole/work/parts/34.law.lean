set_option maxHeartbeats 40000000 in
set_option maxRecDepth 100000 in
theorem w_L_law_23 {G : gC} {X : gX} {F : Nat} {b N : Nat} {zs : Int → Int} {L : Int} (hscr : Scr G X b N zs L) (hzs : ∀ i, inR (zs i)) (hLR : inR L) (C : Cx G X cL_law 9 RL 11 601024 7293034 (some .boolean) (X.2.2.2.2.2.2.2.2.2.1.exceptionTable.toList)) (hrb : LawRet X) (hZ : LawEnd G X b) : ∀ (fu : Nat) (v4 : Int) (M : Mem) (kc ks : Nat), kc + 5 * fu ≤ 601024 → ks + 30 * fu ≤ 7293034 → Bd M → f_L_law_23 F zs L fu v4 M = some 1 → Go G X 9 kc ks 23 [some (.ref b), some (rf G 0), some (rf G 64), some (rf G 79), some (.int (iI v4)), none, none, none, none] [] M := by
  intro fu
  induction fu with
  | zero => intro v4 M kc ks hk1 hk2 hB h; exact nomatch (show (none : Option (Int)) = some 1 from h)
  | succ fu ih =>
    intro v4 M kc ks hk1 hk2 hB h
    rw [f_L_law_23] at h
    obtain ⟨hp_v4, h⟩ := chk_some h
    refine go_iload C dL_law_23 rfl ?_
    refine go_aload_n C dL_law_25 rfl rfl ?_
    refine go_slen hscr C dL_law_26 ?_
    refine go_iconst C dL_law_27 ?_
    refine go_isub C dL_law_28 ?_
    obtain ⟨hc1, h⟩ := chk_some h
    refine go_icmp_gt (tgt := 2240) C dL_law_29 rfl hp_v4 hc1 (fun hc2 => ?_) (fun hc2 => ?_)
    · replace h := ite_t hc2 h
      refine go_iconst C dL_law_2240 ?_
      exact go_lawret hrb C hZ dL_law_2241 (by omega) (by omega)
    · replace h := ite_f hc2 h
      refine go_aload_n C dL_law_32 rfl rfl ?_
      refine go_iload C dL_law_33 rfl ?_
      obtain ⟨hc3, h⟩ := chk_some h
      refine go_sld hscr C dL_law_35 hc3 ?_
      refine go_bipush C dL_law_36 (by decide +kernel) ?_
      refine go_iand C dL_law_38 ?_
      by_cases hs0 : band (zs v4) 63 = 0
      · replace h := ite_t hs0 h
        refine go_tabIn (j := 0) (tgt := 204) C dL_law_39 hs0 (by decide) (by decide) rfl rfl ?_
        refine go_aload_n C dL_law_204 rfl rfl ?_
        refine go_aload_n C dL_law_205 rfl rfl ?_
        refine go_iload C dL_law_206 rfl ?_
        refine go_iconst C dL_law_208 ?_
        refine go_iadd C dL_law_209 ?_
        obtain ⟨hc4, h⟩ := chk_some h
        refine go_sld hscr C dL_law_210 hc4 ?_
        refine go_aload_n C dL_law_211 rfl rfl ?_
        obtain ⟨q5, h5, h⟩ := ob_some h
        refine go_callSX_i C dL_law_212 (ok_L_begin C.hl hB h5) ms_L_112 rfl rfl (Nat.le_of_ble_eq_true rfl) ⟨(Nat.le_of_ble_eq_true rfl), (Nat.le_of_ble_eq_true rfl)⟩ ⟨by omega, by omega⟩ (fun hB5 => ?_)
        refine go_istore (ls2 := [some (.ref b), some (rf G 0), some (rf G 64), some (rf G 79), some (.int (iI v4)), some (.int (iI q5.1)), none, none, none]) C dL_law_215 (Nat.le_of_ble_eq_true rfl) rfl ?_
        refine go_aload_n C dL_law_217 rfl rfl ?_
        refine go_aload_n C dL_law_218 rfl rfl ?_
        refine go_iload C dL_law_219 rfl ?_
        refine go_iconst C dL_law_221 ?_
        refine go_iadd C dL_law_222 ?_
        refine go_sld hscr C dL_law_223 hc4 ?_
        obtain ⟨q6, h6, h⟩ := ob_some h
        refine go_callV_i C dL_law_224 (ok_X10_begin C.hl hB5 h6) mv_L_117 sh_64 rfl rfl (Nat.le_of_ble_eq_true rfl) ⟨(Nat.le_of_ble_eq_true rfl), (Nat.le_of_ble_eq_true rfl)⟩ ⟨by omega, by omega⟩ (fun hB6 => ?_)
        refine go_istore (ls2 := [some (.ref b), some (rf G 0), some (rf G 64), some (rf G 79), some (.int (iI v4)), some (.int (iI q5.1)), some (.int (iI q6.1)), none, none]) C dL_law_227 (Nat.le_of_ble_eq_true rfl) rfl ?_
        refine go_aload_n C dL_law_229 rfl rfl ?_
        obtain ⟨q7, h7, h⟩ := ob_some h
        refine go_callV_i C dL_law_230 (ok_X10_thrown C.hl hB6 h7) mv_L_118 sh_64 rfl rfl (Nat.le_of_ble_eq_true rfl) ⟨(Nat.le_of_ble_eq_true rfl), (Nat.le_of_ble_eq_true rfl)⟩ ⟨by omega, by omega⟩ (fun hB7 => ?_)
        refine go_iload C dL_law_233 rfl ?_
        obtain ⟨hc8, h⟩ := chk_some h
        obtain ⟨hc9, h⟩ := chk_some h
        refine go_icmp_eq (tgt := 240) C dL_law_235 rfl hc8 hc9 (fun hc10 => ?_) (fun hc10 => ?_)
        · replace h := ite_t hc10 h
          refine go_iload C dL_law_240 rfl ?_
          refine go_if_ne (tgt := 257) C dL_law_242 rfl hc9 (fun hc11 => ?_) (fun hc11 => ?_)
          · replace h := ite_f hc11 h
            refine go_goto (tgt := 2234) C dL_law_257 rfl ?_
            refine go_iinc (ls2 := [some (.ref b), some (rf G 0), some (rf G 64), some (rf G 79), some (.int (iI (v4 + 5))), some (.int (iI q5.1)), some (.int (iI q6.1)), none, none]) C dL_law_2234 rfl (Nat.le_of_ble_eq_true rfl) rfl ?_
            refine go_goto (tgt := 23) C dL_law_2237 rfl ?_
            refine go_wide (kc' := kc + 5) (ks' := ks + 30) (by omega) (by omega) ?_
            refine go_weak (ls' := [some (.ref b), some (rf G 0), some (rf G 64), some (rf G 79), some (.int (iI (v4 + 5))), none, none, none, none]) ⟨rfl, ⟨rfl, ⟨rfl, ⟨rfl, ⟨rfl, trivial⟩⟩⟩⟩⟩ ?_
            exact ih (v4 + 5) q6.2 (kc + 5) (ks + 30) (by omega) (by omega) hB7 h
          · replace h := ite_t hc11 h
            refine go_aload_n C dL_law_245 rfl rfl ?_
            refine go_iconst C dL_law_246 ?_
            refine go_lald (k2 := 1079) C dL_law_247 sh_79 (by decide) ⟨by decide, by decide⟩ rfl ?_
            refine go_iload C dL_law_248 rfl ?_
            obtain ⟨hc12, h⟩ := chk_some h
            refine go_i2l C dL_law_250 hc12 ?_
            refine go_lcmp C dL_law_251 ?_
            refine go_if_eq (tgt := 257) C dL_law_252 rfl (iI_inR _) (fun hc13 => ?_) (fun hc13 => ?_)
            · replace h := ite_t hc13 h
              refine go_goto (tgt := 2234) C dL_law_257 rfl ?_
              refine go_iinc (ls2 := [some (.ref b), some (rf G 0), some (rf G 64), some (rf G 79), some (.int (iI (v4 + 5))), some (.int (iI q5.1)), some (.int (iI q6.1)), none, none]) C dL_law_2234 rfl (Nat.le_of_ble_eq_true rfl) rfl ?_
              refine go_goto (tgt := 23) C dL_law_2237 rfl ?_
              refine go_wide (kc' := kc + 5) (ks' := ks + 30) (by omega) (by omega) ?_
              refine go_weak (ls' := [some (.ref b), some (rf G 0), some (rf G 64), some (rf G 79), some (.int (iI (v4 + 5))), none, none, none, none]) ⟨rfl, ⟨rfl, ⟨rfl, ⟨rfl, ⟨rfl, trivial⟩⟩⟩⟩⟩ ?_
              exact ih (v4 + 5) q6.2 (kc + 5) (ks + 30) (by omega) (by omega) hB7 h
            · replace h := ite_f hc13 h
              refine go_iconst C dL_law_255 ?_
              exact absurd (Option.some.inj h) (by decide)
        · replace h := ite_f hc10 h
          refine go_iconst C dL_law_238 ?_
          exact absurd (Option.some.inj h) (by decide)
      replace h := ite_f hs0 h
      by_cases hs1 : band (zs v4) 63 = 1
      · replace h := ite_t hs1 h
        refine go_tabIn (j := 1) (tgt := 260) C dL_law_39 hs1 (by decide) (by decide) rfl rfl ?_
        refine go_aload_n C dL_law_260 rfl rfl ?_
        refine go_aload_n C dL_law_261 rfl rfl ?_
        refine go_iload C dL_law_262 rfl ?_
        refine go_iconst C dL_law_264 ?_
        refine go_iadd C dL_law_265 ?_
        obtain ⟨hc14, h⟩ := chk_some h
        refine go_sld hscr C dL_law_266 hc14 ?_
        refine go_aload_n C dL_law_267 rfl rfl ?_
        refine go_iload C dL_law_268 rfl ?_
        refine go_iconst C dL_law_270 ?_
        refine go_iadd C dL_law_271 ?_
        obtain ⟨hc15, h⟩ := chk_some h
        refine go_sld hscr C dL_law_272 hc15 ?_
        refine go_aload_n C dL_law_273 rfl rfl ?_
        refine go_iload C dL_law_274 rfl ?_
        refine go_iconst C dL_law_276 ?_
        refine go_iadd C dL_law_277 ?_
        obtain ⟨hc16, h⟩ := chk_some h
        refine go_sld hscr C dL_law_278 hc16 ?_
        refine go_aload_n C dL_law_279 rfl rfl ?_
        obtain ⟨q17, h17, h⟩ := ob_some h
        refine go_callSX_i C dL_law_280 (ok_L_addLink C.hl hB h17) ms_L_121 rfl rfl (Nat.le_of_ble_eq_true rfl) ⟨(Nat.le_of_ble_eq_true rfl), (Nat.le_of_ble_eq_true rfl)⟩ ⟨by omega, by omega⟩ (fun hB17 => ?_)
        refine go_istore (ls2 := [some (.ref b), some (rf G 0), some (rf G 64), some (rf G 79), some (.int (iI v4)), some (.int (iI q17.1)), none, none, none]) C dL_law_283 (Nat.le_of_ble_eq_true rfl) rfl ?_
        refine go_aload_n C dL_law_285 rfl rfl ?_
        refine go_aload_n C dL_law_286 rfl rfl ?_
        refine go_iload C dL_law_287 rfl ?_
        refine go_iconst C dL_law_289 ?_
        refine go_iadd C dL_law_290 ?_
        refine go_sld hscr C dL_law_291 hc14 ?_
        refine go_aload_n C dL_law_292 rfl rfl ?_
        refine go_iload C dL_law_293 rfl ?_
        refine go_iconst C dL_law_295 ?_
        refine go_iadd C dL_law_296 ?_
        refine go_sld hscr C dL_law_297 hc15 ?_
        refine go_aload_n C dL_law_298 rfl rfl ?_
        refine go_iload C dL_law_299 rfl ?_
        refine go_iconst C dL_law_301 ?_
        refine go_iadd C dL_law_302 ?_
        refine go_sld hscr C dL_law_303 hc16 ?_
        obtain ⟨q18, h18, h⟩ := ob_some h
        refine go_callV_i C dL_law_304 (ok_X10_addLink C.hl hB17 h18) mv_L_124 sh_64 rfl rfl (Nat.le_of_ble_eq_true rfl) ⟨(Nat.le_of_ble_eq_true rfl), (Nat.le_of_ble_eq_true rfl)⟩ ⟨by omega, by omega⟩ (fun hB18 => ?_)
        refine go_istore (ls2 := [some (.ref b), some (rf G 0), some (rf G 64), some (rf G 79), some (.int (iI v4)), some (.int (iI q17.1)), some (.int (iI q18.1)), none, none]) C dL_law_307 (Nat.le_of_ble_eq_true rfl) rfl ?_
        refine go_aload_n C dL_law_309 rfl rfl ?_
        obtain ⟨q19, h19, h⟩ := ob_some h
        refine go_callV_i C dL_law_310 (ok_X10_thrown C.hl hB18 h19) mv_L_118 sh_64 rfl rfl (Nat.le_of_ble_eq_true rfl) ⟨(Nat.le_of_ble_eq_true rfl), (Nat.le_of_ble_eq_true rfl)⟩ ⟨by omega, by omega⟩ (fun hB19 => ?_)
        refine go_iload C dL_law_313 rfl ?_
        obtain ⟨hc20, h⟩ := chk_some h
        obtain ⟨hc21, h⟩ := chk_some h
        refine go_icmp_eq (tgt := 320) C dL_law_315 rfl hc20 hc21 (fun hc22 => ?_) (fun hc22 => ?_)
        · replace h := ite_t hc22 h
          refine go_iload C dL_law_320 rfl ?_
          refine go_if_ne (tgt := 337) C dL_law_322 rfl hc21 (fun hc23 => ?_) (fun hc23 => ?_)
          · replace h := ite_f hc23 h
            refine go_goto (tgt := 2234) C dL_law_337 rfl ?_
            refine go_iinc (ls2 := [some (.ref b), some (rf G 0), some (rf G 64), some (rf G 79), some (.int (iI (v4 + 5))), some (.int (iI q17.1)), some (.int (iI q18.1)), none, none]) C dL_law_2234 rfl (Nat.le_of_ble_eq_true rfl) rfl ?_
            refine go_goto (tgt := 23) C dL_law_2237 rfl ?_
            refine go_wide (kc' := kc + 5) (ks' := ks + 30) (by omega) (by omega) ?_
            refine go_weak (ls' := [some (.ref b), some (rf G 0), some (rf G 64), some (rf G 79), some (.int (iI (v4 + 5))), none, none, none, none]) ⟨rfl, ⟨rfl, ⟨rfl, ⟨rfl, ⟨rfl, trivial⟩⟩⟩⟩⟩ ?_
            exact ih (v4 + 5) q18.2 (kc + 5) (ks + 30) (by omega) (by omega) hB19 h
          · replace h := ite_t hc23 h
            refine go_aload_n C dL_law_325 rfl rfl ?_
            refine go_iconst C dL_law_326 ?_
            refine go_lald (k2 := 1079) C dL_law_327 sh_79 (by decide) ⟨by decide, by decide⟩ rfl ?_
            refine go_iload C dL_law_328 rfl ?_
            obtain ⟨hc24, h⟩ := chk_some h
            refine go_i2l C dL_law_330 hc24 ?_
            refine go_lcmp C dL_law_331 ?_
            refine go_if_eq (tgt := 337) C dL_law_332 rfl (iI_inR _) (fun hc25 => ?_) (fun hc25 => ?_)
            · replace h := ite_t hc25 h
              refine go_goto (tgt := 2234) C dL_law_337 rfl ?_
              refine go_iinc (ls2 := [some (.ref b), some (rf G 0), some (rf G 64), some (rf G 79), some (.int (iI (v4 + 5))), some (.int (iI q17.1)), some (.int (iI q18.1)), none, none]) C dL_law_2234 rfl (Nat.le_of_ble_eq_true rfl) rfl ?_
              refine go_goto (tgt := 23) C dL_law_2237 rfl ?_
              refine go_wide (kc' := kc + 5) (ks' := ks + 30) (by omega) (by omega) ?_
              refine go_weak (ls' := [some (.ref b), some (rf G 0), some (rf G 64), some (rf G 79), some (.int (iI (v4 + 5))), none, none, none, none]) ⟨rfl, ⟨rfl, ⟨rfl, ⟨rfl, ⟨rfl, trivial⟩⟩⟩⟩⟩ ?_
              exact ih (v4 + 5) q18.2 (kc + 5) (ks + 30) (by omega) (by omega) hB19 h
            · replace h := ite_f hc25 h
              refine go_iconst C dL_law_335 ?_
              exact absurd (Option.some.inj h) (by decide)
        · replace h := ite_f hc22 h
          refine go_iconst C dL_law_318 ?_
          exact absurd (Option.some.inj h) (by decide)
      replace h := ite_f hs1 h
      by_cases hs2 : band (zs v4) 63 = 2
      · replace h := ite_t hs2 h
        refine go_tabIn (j := 2) (tgt := 340) C dL_law_39 hs2 (by decide) (by decide) rfl rfl ?_
        refine go_aload_n C dL_law_340 rfl rfl ?_
        refine go_aload_n C dL_law_341 rfl rfl ?_
        refine go_iload C dL_law_342 rfl ?_
        refine go_iconst C dL_law_344 ?_
        refine go_iadd C dL_law_345 ?_
        obtain ⟨hc26, h⟩ := chk_some h
        refine go_sld hscr C dL_law_346 hc26 ?_
        refine go_aload_n C dL_law_347 rfl rfl ?_
        obtain ⟨q27, h27, h⟩ := ob_some h
        refine go_callSX_i C dL_law_348 (ok_L_removeLink C.hl hB h27) ms_L_125 rfl rfl (Nat.le_of_ble_eq_true rfl) ⟨(Nat.le_of_ble_eq_true rfl), (Nat.le_of_ble_eq_true rfl)⟩ ⟨by omega, by omega⟩ (fun hB27 => ?_)
        refine go_istore (ls2 := [some (.ref b), some (rf G 0), some (rf G 64), some (rf G 79), some (.int (iI v4)), some (.int (iI q27.1)), none, none, none]) C dL_law_351 (Nat.le_of_ble_eq_true rfl) rfl ?_
        refine go_aload_n C dL_law_353 rfl rfl ?_
        refine go_aload_n C dL_law_354 rfl rfl ?_
        refine go_iload C dL_law_355 rfl ?_
        refine go_iconst C dL_law_357 ?_
        refine go_iadd C dL_law_358 ?_
        refine go_sld hscr C dL_law_359 hc26 ?_
        obtain ⟨q28, h28, h⟩ := ob_some h
        refine go_callV_i C dL_law_360 (ok_X10_removeLink C.hl hB27 h28) mv_L_127 sh_64 rfl rfl (Nat.le_of_ble_eq_true rfl) ⟨(Nat.le_of_ble_eq_true rfl), (Nat.le_of_ble_eq_true rfl)⟩ ⟨by omega, by omega⟩ (fun hB28 => ?_)
        refine go_istore (ls2 := [some (.ref b), some (rf G 0), some (rf G 64), some (rf G 79), some (.int (iI v4)), some (.int (iI q27.1)), some (.int (iI q28.1)), none, none]) C dL_law_363 (Nat.le_of_ble_eq_true rfl) rfl ?_
        refine go_aload_n C dL_law_365 rfl rfl ?_
        obtain ⟨q29, h29, h⟩ := ob_some h
        refine go_callV_i C dL_law_366 (ok_X10_thrown C.hl hB28 h29) mv_L_118 sh_64 rfl rfl (Nat.le_of_ble_eq_true rfl) ⟨(Nat.le_of_ble_eq_true rfl), (Nat.le_of_ble_eq_true rfl)⟩ ⟨by omega, by omega⟩ (fun hB29 => ?_)
        refine go_iload C dL_law_369 rfl ?_
        obtain ⟨hc30, h⟩ := chk_some h
        obtain ⟨hc31, h⟩ := chk_some h
        refine go_icmp_eq (tgt := 376) C dL_law_371 rfl hc30 hc31 (fun hc32 => ?_) (fun hc32 => ?_)
        · replace h := ite_t hc32 h
          refine go_iload C dL_law_376 rfl ?_
          refine go_if_ne (tgt := 393) C dL_law_378 rfl hc31 (fun hc33 => ?_) (fun hc33 => ?_)
          · replace h := ite_f hc33 h
            refine go_goto (tgt := 2234) C dL_law_393 rfl ?_
            refine go_iinc (ls2 := [some (.ref b), some (rf G 0), some (rf G 64), some (rf G 79), some (.int (iI (v4 + 5))), some (.int (iI q27.1)), some (.int (iI q28.1)), none, none]) C dL_law_2234 rfl (Nat.le_of_ble_eq_true rfl) rfl ?_
            refine go_goto (tgt := 23) C dL_law_2237 rfl ?_
            refine go_wide (kc' := kc + 5) (ks' := ks + 30) (by omega) (by omega) ?_
            refine go_weak (ls' := [some (.ref b), some (rf G 0), some (rf G 64), some (rf G 79), some (.int (iI (v4 + 5))), none, none, none, none]) ⟨rfl, ⟨rfl, ⟨rfl, ⟨rfl, ⟨rfl, trivial⟩⟩⟩⟩⟩ ?_
            exact ih (v4 + 5) q28.2 (kc + 5) (ks + 30) (by omega) (by omega) hB29 h
          · replace h := ite_t hc33 h
            refine go_aload_n C dL_law_381 rfl rfl ?_
            refine go_iconst C dL_law_382 ?_
            refine go_lald (k2 := 1079) C dL_law_383 sh_79 (by decide) ⟨by decide, by decide⟩ rfl ?_
            refine go_iload C dL_law_384 rfl ?_
            obtain ⟨hc34, h⟩ := chk_some h
            refine go_i2l C dL_law_386 hc34 ?_
            refine go_lcmp C dL_law_387 ?_
            refine go_if_eq (tgt := 393) C dL_law_388 rfl (iI_inR _) (fun hc35 => ?_) (fun hc35 => ?_)
            · replace h := ite_t hc35 h
              refine go_goto (tgt := 2234) C dL_law_393 rfl ?_
              refine go_iinc (ls2 := [some (.ref b), some (rf G 0), some (rf G 64), some (rf G 79), some (.int (iI (v4 + 5))), some (.int (iI q27.1)), some (.int (iI q28.1)), none, none]) C dL_law_2234 rfl (Nat.le_of_ble_eq_true rfl) rfl ?_
              refine go_goto (tgt := 23) C dL_law_2237 rfl ?_
              refine go_wide (kc' := kc + 5) (ks' := ks + 30) (by omega) (by omega) ?_
              refine go_weak (ls' := [some (.ref b), some (rf G 0), some (rf G 64), some (rf G 79), some (.int (iI (v4 + 5))), none, none, none, none]) ⟨rfl, ⟨rfl, ⟨rfl, ⟨rfl, ⟨rfl, trivial⟩⟩⟩⟩⟩ ?_
              exact ih (v4 + 5) q28.2 (kc + 5) (ks + 30) (by omega) (by omega) hB29 h
            · replace h := ite_f hc35 h
              refine go_iconst C dL_law_391 ?_
              exact absurd (Option.some.inj h) (by decide)
        · replace h := ite_f hc32 h
          refine go_iconst C dL_law_374 ?_
          exact absurd (Option.some.inj h) (by decide)
      replace h := ite_f hs2 h
      by_cases hs3 : band (zs v4) 63 = 3
      · replace h := ite_t hs3 h
        refine go_tabIn (j := 3) (tgt := 396) C dL_law_39 hs3 (by decide) (by decide) rfl rfl ?_
        refine go_aload_n C dL_law_396 rfl rfl ?_
        refine go_aload_n C dL_law_397 rfl rfl ?_
        refine go_iload C dL_law_398 rfl ?_
        refine go_iconst C dL_law_400 ?_
        refine go_iadd C dL_law_401 ?_
        obtain ⟨hc36, h⟩ := chk_some h
        refine go_sld hscr C dL_law_402 hc36 ?_
        refine go_aload_n C dL_law_403 rfl rfl ?_
        refine go_iload C dL_law_404 rfl ?_
        refine go_iconst C dL_law_406 ?_
        refine go_iadd C dL_law_407 ?_
        obtain ⟨hc37, h⟩ := chk_some h
        refine go_sld hscr C dL_law_408 hc37 ?_
        refine go_aload_n C dL_law_409 rfl rfl ?_
        obtain ⟨q38, h38, h⟩ := ob_some h
        refine go_callSX_i C dL_law_410 (ok_L_setLength C.hl hB h38) ms_L_128 rfl rfl (Nat.le_of_ble_eq_true rfl) ⟨(Nat.le_of_ble_eq_true rfl), (Nat.le_of_ble_eq_true rfl)⟩ ⟨by omega, by omega⟩ (fun hB38 => ?_)
        refine go_istore (ls2 := [some (.ref b), some (rf G 0), some (rf G 64), some (rf G 79), some (.int (iI v4)), some (.int (iI q38.1)), none, none, none]) C dL_law_413 (Nat.le_of_ble_eq_true rfl) rfl ?_
        refine go_aload_n C dL_law_415 rfl rfl ?_
        refine go_aload_n C dL_law_416 rfl rfl ?_
        refine go_iload C dL_law_417 rfl ?_
        refine go_iconst C dL_law_419 ?_
        refine go_iadd C dL_law_420 ?_
        refine go_sld hscr C dL_law_421 hc36 ?_
        refine go_aload_n C dL_law_422 rfl rfl ?_
        refine go_iload C dL_law_423 rfl ?_
        refine go_iconst C dL_law_425 ?_
        refine go_iadd C dL_law_426 ?_
        refine go_sld hscr C dL_law_427 hc37 ?_
        obtain ⟨q39, h39, h⟩ := ob_some h
        refine go_callV_i C dL_law_428 (ok_X10_setLength C.hl hB38 h39) mv_L_131 sh_64 rfl rfl (Nat.le_of_ble_eq_true rfl) ⟨(Nat.le_of_ble_eq_true rfl), (Nat.le_of_ble_eq_true rfl)⟩ ⟨by omega, by omega⟩ (fun hB39 => ?_)
        refine go_istore (ls2 := [some (.ref b), some (rf G 0), some (rf G 64), some (rf G 79), some (.int (iI v4)), some (.int (iI q38.1)), some (.int (iI q39.1)), none, none]) C dL_law_431 (Nat.le_of_ble_eq_true rfl) rfl ?_
        refine go_aload_n C dL_law_433 rfl rfl ?_
        obtain ⟨q40, h40, h⟩ := ob_some h
        refine go_callV_i C dL_law_434 (ok_X10_thrown C.hl hB39 h40) mv_L_118 sh_64 rfl rfl (Nat.le_of_ble_eq_true rfl) ⟨(Nat.le_of_ble_eq_true rfl), (Nat.le_of_ble_eq_true rfl)⟩ ⟨by omega, by omega⟩ (fun hB40 => ?_)
        refine go_iload C dL_law_437 rfl ?_
        obtain ⟨hc41, h⟩ := chk_some h
        obtain ⟨hc42, h⟩ := chk_some h
        refine go_icmp_eq (tgt := 444) C dL_law_439 rfl hc41 hc42 (fun hc43 => ?_) (fun hc43 => ?_)
        · replace h := ite_t hc43 h
          refine go_iload C dL_law_444 rfl ?_
          refine go_if_ne (tgt := 461) C dL_law_446 rfl hc42 (fun hc44 => ?_) (fun hc44 => ?_)
          · replace h := ite_f hc44 h
            refine go_goto (tgt := 2234) C dL_law_461 rfl ?_
            refine go_iinc (ls2 := [some (.ref b), some (rf G 0), some (rf G 64), some (rf G 79), some (.int (iI (v4 + 5))), some (.int (iI q38.1)), some (.int (iI q39.1)), none, none]) C dL_law_2234 rfl (Nat.le_of_ble_eq_true rfl) rfl ?_
            refine go_goto (tgt := 23) C dL_law_2237 rfl ?_
            refine go_wide (kc' := kc + 5) (ks' := ks + 30) (by omega) (by omega) ?_
            refine go_weak (ls' := [some (.ref b), some (rf G 0), some (rf G 64), some (rf G 79), some (.int (iI (v4 + 5))), none, none, none, none]) ⟨rfl, ⟨rfl, ⟨rfl, ⟨rfl, ⟨rfl, trivial⟩⟩⟩⟩⟩ ?_
            exact ih (v4 + 5) q39.2 (kc + 5) (ks + 30) (by omega) (by omega) hB40 h
          · replace h := ite_t hc44 h
            refine go_aload_n C dL_law_449 rfl rfl ?_
            refine go_iconst C dL_law_450 ?_
            refine go_lald (k2 := 1079) C dL_law_451 sh_79 (by decide) ⟨by decide, by decide⟩ rfl ?_
            refine go_iload C dL_law_452 rfl ?_
            obtain ⟨hc45, h⟩ := chk_some h
            refine go_i2l C dL_law_454 hc45 ?_
            refine go_lcmp C dL_law_455 ?_
            refine go_if_eq (tgt := 461) C dL_law_456 rfl (iI_inR _) (fun hc46 => ?_) (fun hc46 => ?_)
            · replace h := ite_t hc46 h
              refine go_goto (tgt := 2234) C dL_law_461 rfl ?_
              refine go_iinc (ls2 := [some (.ref b), some (rf G 0), some (rf G 64), some (rf G 79), some (.int (iI (v4 + 5))), some (.int (iI q38.1)), some (.int (iI q39.1)), none, none]) C dL_law_2234 rfl (Nat.le_of_ble_eq_true rfl) rfl ?_
              refine go_goto (tgt := 23) C dL_law_2237 rfl ?_
              refine go_wide (kc' := kc + 5) (ks' := ks + 30) (by omega) (by omega) ?_
              refine go_weak (ls' := [some (.ref b), some (rf G 0), some (rf G 64), some (rf G 79), some (.int (iI (v4 + 5))), none, none, none, none]) ⟨rfl, ⟨rfl, ⟨rfl, ⟨rfl, ⟨rfl, trivial⟩⟩⟩⟩⟩ ?_
              exact ih (v4 + 5) q39.2 (kc + 5) (ks + 30) (by omega) (by omega) hB40 h
            · replace h := ite_f hc46 h
              refine go_iconst C dL_law_459 ?_
              exact absurd (Option.some.inj h) (by decide)
        · replace h := ite_f hc43 h
          refine go_iconst C dL_law_442 ?_
          exact absurd (Option.some.inj h) (by decide)
      replace h := ite_f hs3 h
      by_cases hs4 : band (zs v4) 63 = 4
      · replace h := ite_t hs4 h
        refine go_tabIn (j := 4) (tgt := 464) C dL_law_39 hs4 (by decide) (by decide) rfl rfl ?_
        refine go_aload_n C dL_law_464 rfl rfl ?_
        refine go_aload_n C dL_law_465 rfl rfl ?_
        refine go_iload C dL_law_466 rfl ?_
        refine go_iconst C dL_law_468 ?_
        refine go_iadd C dL_law_469 ?_
        obtain ⟨hc47, h⟩ := chk_some h
        refine go_sld hscr C dL_law_470 hc47 ?_
        refine go_if_eq (tgt := 478) C dL_law_471 rfl (hzs (v4 + 1)) (fun hc48 => ?_) (fun hc48 => ?_)
        · replace h := ite_t hc48 h
          refine go_iconst C dL_law_478 ?_
          obtain ⟨q49, h49, h⟩ := ob_some h
          refine go_callV_i C dL_law_479 (ok_X9_size C.hl hB h49) mv_L_132 sh_0 rfl rfl (Nat.le_of_ble_eq_true rfl) ⟨(Nat.le_of_ble_eq_true rfl), (Nat.le_of_ble_eq_true rfl)⟩ ⟨by omega, by omega⟩ (fun hB49 => ?_)
          refine go_aload_n C dL_law_482 rfl rfl ?_
          refine go_aload_n C dL_law_483 rfl rfl ?_
          refine go_iload C dL_law_484 rfl ?_
          refine go_iconst C dL_law_486 ?_
          refine go_iadd C dL_law_487 ?_
          refine go_sld hscr C dL_law_488 hc47 ?_
          refine go_if_eq (tgt := 496) C dL_law_489 rfl (hzs (v4 + 1)) (fun hc50 => ?_) (fun hc50 => ?_)
          · replace h := ite_t hc50 h
            refine go_iconst C dL_law_496 ?_
            obtain ⟨q51, h51, h⟩ := ob_some h
            refine go_callV_i C dL_law_497 (ok_X10_size C.hl hB49 h51) mv_L_136 sh_64 rfl rfl (Nat.le_of_ble_eq_true rfl) ⟨(Nat.le_of_ble_eq_true rfl), (Nat.le_of_ble_eq_true rfl)⟩ ⟨by omega, by omega⟩ (fun hB51 => ?_)
            obtain ⟨hc52, h⟩ := chk_some h
            obtain ⟨hc53, h⟩ := chk_some h
            refine go_icmp_eq (tgt := 2234) C dL_law_500 rfl hc52 hc53 (fun hc54 => ?_) (fun hc54 => ?_)
            · replace h := ite_t hc54 h
              refine go_iinc (ls2 := [some (.ref b), some (rf G 0), some (rf G 64), some (rf G 79), some (.int (iI (v4 + 5))), none, none, none, none]) C dL_law_2234 rfl (Nat.le_of_ble_eq_true rfl) rfl ?_
              refine go_goto (tgt := 23) C dL_law_2237 rfl ?_
              refine go_wide (kc' := kc + 5) (ks' := ks + 30) (by omega) (by omega) ?_
              exact ih (v4 + 5) q51.2 (kc + 5) (ks + 30) (by omega) (by omega) hB51 h
            · replace h := ite_f hc54 h
              refine go_iconst C dL_law_503 ?_
              exact absurd (Option.some.inj h) (by decide)
          · replace h := ite_f hc50 h
            refine go_iconst C dL_law_492 ?_
            refine go_goto (tgt := 497) C dL_law_493 rfl ?_
            obtain ⟨q55, h55, h⟩ := ob_some h
            refine go_callV_i C dL_law_497 (ok_X10_size C.hl hB49 h55) mv_L_136 sh_64 rfl rfl (Nat.le_of_ble_eq_true rfl) ⟨(Nat.le_of_ble_eq_true rfl), (Nat.le_of_ble_eq_true rfl)⟩ ⟨by omega, by omega⟩ (fun hB55 => ?_)
            obtain ⟨hc56, h⟩ := chk_some h
            obtain ⟨hc57, h⟩ := chk_some h
            refine go_icmp_eq (tgt := 2234) C dL_law_500 rfl hc56 hc57 (fun hc58 => ?_) (fun hc58 => ?_)
            · replace h := ite_t hc58 h
              refine go_iinc (ls2 := [some (.ref b), some (rf G 0), some (rf G 64), some (rf G 79), some (.int (iI (v4 + 5))), none, none, none, none]) C dL_law_2234 rfl (Nat.le_of_ble_eq_true rfl) rfl ?_
              refine go_goto (tgt := 23) C dL_law_2237 rfl ?_
              refine go_wide (kc' := kc + 5) (ks' := ks + 30) (by omega) (by omega) ?_
              exact ih (v4 + 5) q55.2 (kc + 5) (ks + 30) (by omega) (by omega) hB55 h
            · replace h := ite_f hc58 h
              refine go_iconst C dL_law_503 ?_
              exact absurd (Option.some.inj h) (by decide)
        · replace h := ite_f hc48 h
          refine go_iconst C dL_law_474 ?_
          refine go_goto (tgt := 479) C dL_law_475 rfl ?_
          obtain ⟨q59, h59, h⟩ := ob_some h
          refine go_callV_i C dL_law_479 (ok_X9_size C.hl hB h59) mv_L_132 sh_0 rfl rfl (Nat.le_of_ble_eq_true rfl) ⟨(Nat.le_of_ble_eq_true rfl), (Nat.le_of_ble_eq_true rfl)⟩ ⟨by omega, by omega⟩ (fun hB59 => ?_)
          refine go_aload_n C dL_law_482 rfl rfl ?_
          refine go_aload_n C dL_law_483 rfl rfl ?_
          refine go_iload C dL_law_484 rfl ?_
          refine go_iconst C dL_law_486 ?_
          refine go_iadd C dL_law_487 ?_
          refine go_sld hscr C dL_law_488 hc47 ?_
          refine go_if_eq (tgt := 496) C dL_law_489 rfl (hzs (v4 + 1)) (fun hc60 => ?_) (fun hc60 => ?_)
          · replace h := ite_t hc60 h
            refine go_iconst C dL_law_496 ?_
            obtain ⟨q61, h61, h⟩ := ob_some h
            refine go_callV_i C dL_law_497 (ok_X10_size C.hl hB59 h61) mv_L_136 sh_64 rfl rfl (Nat.le_of_ble_eq_true rfl) ⟨(Nat.le_of_ble_eq_true rfl), (Nat.le_of_ble_eq_true rfl)⟩ ⟨by omega, by omega⟩ (fun hB61 => ?_)
            obtain ⟨hc62, h⟩ := chk_some h
            obtain ⟨hc63, h⟩ := chk_some h
            refine go_icmp_eq (tgt := 2234) C dL_law_500 rfl hc62 hc63 (fun hc64 => ?_) (fun hc64 => ?_)
            · replace h := ite_t hc64 h
              refine go_iinc (ls2 := [some (.ref b), some (rf G 0), some (rf G 64), some (rf G 79), some (.int (iI (v4 + 5))), none, none, none, none]) C dL_law_2234 rfl (Nat.le_of_ble_eq_true rfl) rfl ?_
              refine go_goto (tgt := 23) C dL_law_2237 rfl ?_
              refine go_wide (kc' := kc + 5) (ks' := ks + 30) (by omega) (by omega) ?_
              exact ih (v4 + 5) q61.2 (kc + 5) (ks + 30) (by omega) (by omega) hB61 h
            · replace h := ite_f hc64 h
              refine go_iconst C dL_law_503 ?_
              exact absurd (Option.some.inj h) (by decide)
          · replace h := ite_f hc60 h
            refine go_iconst C dL_law_492 ?_
            refine go_goto (tgt := 497) C dL_law_493 rfl ?_
            obtain ⟨q65, h65, h⟩ := ob_some h
            refine go_callV_i C dL_law_497 (ok_X10_size C.hl hB59 h65) mv_L_136 sh_64 rfl rfl (Nat.le_of_ble_eq_true rfl) ⟨(Nat.le_of_ble_eq_true rfl), (Nat.le_of_ble_eq_true rfl)⟩ ⟨by omega, by omega⟩ (fun hB65 => ?_)
            obtain ⟨hc66, h⟩ := chk_some h
            obtain ⟨hc67, h⟩ := chk_some h
            refine go_icmp_eq (tgt := 2234) C dL_law_500 rfl hc66 hc67 (fun hc68 => ?_) (fun hc68 => ?_)
            · replace h := ite_t hc68 h
              refine go_iinc (ls2 := [some (.ref b), some (rf G 0), some (rf G 64), some (rf G 79), some (.int (iI (v4 + 5))), none, none, none, none]) C dL_law_2234 rfl (Nat.le_of_ble_eq_true rfl) rfl ?_
              refine go_goto (tgt := 23) C dL_law_2237 rfl ?_
              refine go_wide (kc' := kc + 5) (ks' := ks + 30) (by omega) (by omega) ?_
              exact ih (v4 + 5) q65.2 (kc + 5) (ks + 30) (by omega) (by omega) hB65 h
            · replace h := ite_f hc68 h
              refine go_iconst C dL_law_503 ?_
              exact absurd (Option.some.inj h) (by decide)
      replace h := ite_f hs4 h
      by_cases hs5 : band (zs v4) 63 = 5
      · replace h := ite_t hs5 h
        refine go_tabIn (j := 5) (tgt := 505) C dL_law_39 hs5 (by decide) (by decide) rfl rfl ?_
        refine go_aload_n C dL_law_505 rfl rfl ?_
        refine go_aload_n C dL_law_506 rfl rfl ?_
        refine go_iload C dL_law_507 rfl ?_
        refine go_iconst C dL_law_509 ?_
        refine go_iadd C dL_law_510 ?_
        obtain ⟨hc69, h⟩ := chk_some h
        refine go_sld hscr C dL_law_511 hc69 ?_
        refine go_aload_n C dL_law_512 rfl rfl ?_
        refine go_iload C dL_law_513 rfl ?_
        refine go_iconst C dL_law_515 ?_
        refine go_iadd C dL_law_516 ?_
        obtain ⟨hc70, h⟩ := chk_some h
        refine go_sld hscr C dL_law_517 hc70 ?_
        refine go_aload_n C dL_law_518 rfl rfl ?_
        obtain ⟨q71, h71, h⟩ := ob_some h
        refine go_callSX_i C dL_law_519 (ok_L_link C.hl hB h71) ms_L_137 rfl rfl (Nat.le_of_ble_eq_true rfl) ⟨(Nat.le_of_ble_eq_true rfl), (Nat.le_of_ble_eq_true rfl)⟩ ⟨by omega, by omega⟩ (fun hB71 => ?_)
        refine go_istore (ls2 := [some (.ref b), some (rf G 0), some (rf G 64), some (rf G 79), some (.int (iI v4)), some (.int (iI q71.1)), none, none, none]) C dL_law_522 (Nat.le_of_ble_eq_true rfl) rfl ?_
        refine go_aload_n C dL_law_524 rfl rfl ?_
        refine go_aload_n C dL_law_525 rfl rfl ?_
        refine go_iload C dL_law_526 rfl ?_
        refine go_iconst C dL_law_528 ?_
        refine go_iadd C dL_law_529 ?_
        refine go_sld hscr C dL_law_530 hc69 ?_
        refine go_aload_n C dL_law_531 rfl rfl ?_
        refine go_iload C dL_law_532 rfl ?_
        refine go_iconst C dL_law_534 ?_
        refine go_iadd C dL_law_535 ?_
        refine go_sld hscr C dL_law_536 hc70 ?_
        obtain ⟨q72, h72, h⟩ := ob_some h
        refine go_callV_i C dL_law_537 (ok_X10_link C.hl hB71 h72) mv_L_139 sh_64 rfl rfl (Nat.le_of_ble_eq_true rfl) ⟨(Nat.le_of_ble_eq_true rfl), (Nat.le_of_ble_eq_true rfl)⟩ ⟨by omega, by omega⟩ (fun hB72 => ?_)
        refine go_istore (ls2 := [some (.ref b), some (rf G 0), some (rf G 64), some (rf G 79), some (.int (iI v4)), some (.int (iI q71.1)), some (.int (iI q72.1)), none, none]) C dL_law_540 (Nat.le_of_ble_eq_true rfl) rfl ?_
        refine go_aload_n C dL_law_542 rfl rfl ?_
        obtain ⟨q73, h73, h⟩ := ob_some h
        refine go_callV_i C dL_law_543 (ok_X10_thrown C.hl hB72 h73) mv_L_118 sh_64 rfl rfl (Nat.le_of_ble_eq_true rfl) ⟨(Nat.le_of_ble_eq_true rfl), (Nat.le_of_ble_eq_true rfl)⟩ ⟨by omega, by omega⟩ (fun hB73 => ?_)
        refine go_iload C dL_law_546 rfl ?_
        obtain ⟨hc74, h⟩ := chk_some h
        obtain ⟨hc75, h⟩ := chk_some h
        refine go_icmp_eq (tgt := 553) C dL_law_548 rfl hc74 hc75 (fun hc76 => ?_) (fun hc76 => ?_)
        · replace h := ite_t hc76 h
          refine go_iload C dL_law_553 rfl ?_
          refine go_if_ne (tgt := 570) C dL_law_555 rfl hc75 (fun hc77 => ?_) (fun hc77 => ?_)
          · replace h := ite_f hc77 h
            refine go_goto (tgt := 2234) C dL_law_570 rfl ?_
            refine go_iinc (ls2 := [some (.ref b), some (rf G 0), some (rf G 64), some (rf G 79), some (.int (iI (v4 + 5))), some (.int (iI q71.1)), some (.int (iI q72.1)), none, none]) C dL_law_2234 rfl (Nat.le_of_ble_eq_true rfl) rfl ?_
            refine go_goto (tgt := 23) C dL_law_2237 rfl ?_
            refine go_wide (kc' := kc + 5) (ks' := ks + 30) (by omega) (by omega) ?_
            refine go_weak (ls' := [some (.ref b), some (rf G 0), some (rf G 64), some (rf G 79), some (.int (iI (v4 + 5))), none, none, none, none]) ⟨rfl, ⟨rfl, ⟨rfl, ⟨rfl, ⟨rfl, trivial⟩⟩⟩⟩⟩ ?_
            exact ih (v4 + 5) q72.2 (kc + 5) (ks + 30) (by omega) (by omega) hB73 h
          · replace h := ite_t hc77 h
            refine go_aload_n C dL_law_558 rfl rfl ?_
            refine go_iconst C dL_law_559 ?_
            refine go_lald (k2 := 1079) C dL_law_560 sh_79 (by decide) ⟨by decide, by decide⟩ rfl ?_
            refine go_iload C dL_law_561 rfl ?_
            obtain ⟨hc78, h⟩ := chk_some h
            refine go_i2l C dL_law_563 hc78 ?_
            refine go_lcmp C dL_law_564 ?_
            refine go_if_eq (tgt := 570) C dL_law_565 rfl (iI_inR _) (fun hc79 => ?_) (fun hc79 => ?_)
            · replace h := ite_t hc79 h
              refine go_goto (tgt := 2234) C dL_law_570 rfl ?_
              refine go_iinc (ls2 := [some (.ref b), some (rf G 0), some (rf G 64), some (rf G 79), some (.int (iI (v4 + 5))), some (.int (iI q71.1)), some (.int (iI q72.1)), none, none]) C dL_law_2234 rfl (Nat.le_of_ble_eq_true rfl) rfl ?_
              refine go_goto (tgt := 23) C dL_law_2237 rfl ?_
              refine go_wide (kc' := kc + 5) (ks' := ks + 30) (by omega) (by omega) ?_
              refine go_weak (ls' := [some (.ref b), some (rf G 0), some (rf G 64), some (rf G 79), some (.int (iI (v4 + 5))), none, none, none, none]) ⟨rfl, ⟨rfl, ⟨rfl, ⟨rfl, ⟨rfl, trivial⟩⟩⟩⟩⟩ ?_
              exact ih (v4 + 5) q72.2 (kc + 5) (ks + 30) (by omega) (by omega) hB73 h
            · replace h := ite_f hc79 h
              refine go_iconst C dL_law_568 ?_
              exact absurd (Option.some.inj h) (by decide)
        · replace h := ite_f hc76 h
          refine go_iconst C dL_law_551 ?_
          exact absurd (Option.some.inj h) (by decide)
      replace h := ite_f hs5 h
      by_cases hs6 : band (zs v4) 63 = 6
      · replace h := ite_t hs6 h
        refine go_tabIn (j := 6) (tgt := 573) C dL_law_39 hs6 (by decide) (by decide) rfl rfl ?_
        refine go_aload_n C dL_law_573 rfl rfl ?_
        refine go_aload_n C dL_law_574 rfl rfl ?_
        refine go_iload C dL_law_575 rfl ?_
        refine go_iconst C dL_law_577 ?_
        refine go_iadd C dL_law_578 ?_
        obtain ⟨hc80, h⟩ := chk_some h
        refine go_sld hscr C dL_law_579 hc80 ?_
        refine go_aload_n C dL_law_580 rfl rfl ?_
        refine go_iload C dL_law_581 rfl ?_
        refine go_iconst C dL_law_583 ?_
        refine go_iadd C dL_law_584 ?_
        obtain ⟨hc81, h⟩ := chk_some h
        refine go_sld hscr C dL_law_585 hc81 ?_
        refine go_aload_n C dL_law_586 rfl rfl ?_
        obtain ⟨q82, h82, h⟩ := ob_some h
        refine go_callSX_i C dL_law_587 (ok_L_distance C.hl hB h82) ms_L_140 rfl rfl (Nat.le_of_ble_eq_true rfl) ⟨(Nat.le_of_ble_eq_true rfl), (Nat.le_of_ble_eq_true rfl)⟩ ⟨by omega, by omega⟩ (fun hB82 => ?_)
        refine go_istore (ls2 := [some (.ref b), some (rf G 0), some (rf G 64), some (rf G 79), some (.int (iI v4)), some (.int (iI q82.1)), none, none, none]) C dL_law_590 (Nat.le_of_ble_eq_true rfl) rfl ?_
        refine go_aload_n C dL_law_592 rfl rfl ?_
        refine go_aload_n C dL_law_593 rfl rfl ?_
        refine go_iload C dL_law_594 rfl ?_
        refine go_iconst C dL_law_596 ?_
        refine go_iadd C dL_law_597 ?_
        refine go_sld hscr C dL_law_598 hc80 ?_
        refine go_aload_n C dL_law_599 rfl rfl ?_
        refine go_iload C dL_law_600 rfl ?_
        refine go_iconst C dL_law_602 ?_
        refine go_iadd C dL_law_603 ?_
        refine go_sld hscr C dL_law_604 hc81 ?_
        obtain ⟨q83, h83, h⟩ := ob_some h
        refine go_callV_i C dL_law_605 (ok_X10_distance C.hl hB82 h83) mv_L_142 sh_64 rfl rfl (Nat.le_of_ble_eq_true rfl) ⟨(Nat.le_of_ble_eq_true rfl), (Nat.le_of_ble_eq_true rfl)⟩ ⟨by omega, by omega⟩ (fun hB83 => ?_)
        refine go_istore (ls2 := [some (.ref b), some (rf G 0), some (rf G 64), some (rf G 79), some (.int (iI v4)), some (.int (iI q82.1)), some (.int (iI q83.1)), none, none]) C dL_law_608 (Nat.le_of_ble_eq_true rfl) rfl ?_
        refine go_aload_n C dL_law_610 rfl rfl ?_
        obtain ⟨q84, h84, h⟩ := ob_some h
        refine go_callV_i C dL_law_611 (ok_X10_thrown C.hl hB83 h84) mv_L_118 sh_64 rfl rfl (Nat.le_of_ble_eq_true rfl) ⟨(Nat.le_of_ble_eq_true rfl), (Nat.le_of_ble_eq_true rfl)⟩ ⟨by omega, by omega⟩ (fun hB84 => ?_)
        refine go_iload C dL_law_614 rfl ?_
        obtain ⟨hc85, h⟩ := chk_some h
        obtain ⟨hc86, h⟩ := chk_some h
        refine go_icmp_eq (tgt := 621) C dL_law_616 rfl hc85 hc86 (fun hc87 => ?_) (fun hc87 => ?_)
        · replace h := ite_t hc87 h
          refine go_iload C dL_law_621 rfl ?_
          refine go_if_ne (tgt := 638) C dL_law_623 rfl hc86 (fun hc88 => ?_) (fun hc88 => ?_)
          · replace h := ite_f hc88 h
            refine go_goto (tgt := 2234) C dL_law_638 rfl ?_
            refine go_iinc (ls2 := [some (.ref b), some (rf G 0), some (rf G 64), some (rf G 79), some (.int (iI (v4 + 5))), some (.int (iI q82.1)), some (.int (iI q83.1)), none, none]) C dL_law_2234 rfl (Nat.le_of_ble_eq_true rfl) rfl ?_
            refine go_goto (tgt := 23) C dL_law_2237 rfl ?_
            refine go_wide (kc' := kc + 5) (ks' := ks + 30) (by omega) (by omega) ?_
            refine go_weak (ls' := [some (.ref b), some (rf G 0), some (rf G 64), some (rf G 79), some (.int (iI (v4 + 5))), none, none, none, none]) ⟨rfl, ⟨rfl, ⟨rfl, ⟨rfl, ⟨rfl, trivial⟩⟩⟩⟩⟩ ?_
            exact ih (v4 + 5) q83.2 (kc + 5) (ks + 30) (by omega) (by omega) hB84 h
          · replace h := ite_t hc88 h
            refine go_aload_n C dL_law_626 rfl rfl ?_
            refine go_iconst C dL_law_627 ?_
            refine go_lald (k2 := 1079) C dL_law_628 sh_79 (by decide) ⟨by decide, by decide⟩ rfl ?_
            refine go_iload C dL_law_629 rfl ?_
            obtain ⟨hc89, h⟩ := chk_some h
            refine go_i2l C dL_law_631 hc89 ?_
            refine go_lcmp C dL_law_632 ?_
            refine go_if_eq (tgt := 638) C dL_law_633 rfl (iI_inR _) (fun hc90 => ?_) (fun hc90 => ?_)
            · replace h := ite_t hc90 h
              refine go_goto (tgt := 2234) C dL_law_638 rfl ?_
              refine go_iinc (ls2 := [some (.ref b), some (rf G 0), some (rf G 64), some (rf G 79), some (.int (iI (v4 + 5))), some (.int (iI q82.1)), some (.int (iI q83.1)), none, none]) C dL_law_2234 rfl (Nat.le_of_ble_eq_true rfl) rfl ?_
              refine go_goto (tgt := 23) C dL_law_2237 rfl ?_
              refine go_wide (kc' := kc + 5) (ks' := ks + 30) (by omega) (by omega) ?_
              refine go_weak (ls' := [some (.ref b), some (rf G 0), some (rf G 64), some (rf G 79), some (.int (iI (v4 + 5))), none, none, none, none]) ⟨rfl, ⟨rfl, ⟨rfl, ⟨rfl, ⟨rfl, trivial⟩⟩⟩⟩⟩ ?_
              exact ih (v4 + 5) q83.2 (kc + 5) (ks + 30) (by omega) (by omega) hB84 h
            · replace h := ite_f hc90 h
              refine go_iconst C dL_law_636 ?_
              exact absurd (Option.some.inj h) (by decide)
        · replace h := ite_f hc87 h
          refine go_iconst C dL_law_619 ?_
          exact absurd (Option.some.inj h) (by decide)
      replace h := ite_f hs6 h
      by_cases hs7 : band (zs v4) 63 = 7
      · replace h := ite_t hs7 h
        refine go_tabIn (j := 7) (tgt := 641) C dL_law_39 hs7 (by decide) (by decide) rfl rfl ?_
        refine go_aload_n C dL_law_641 rfl rfl ?_
        refine go_aload_n C dL_law_642 rfl rfl ?_
        refine go_iload C dL_law_643 rfl ?_
        refine go_iconst C dL_law_645 ?_
        refine go_iadd C dL_law_646 ?_
        obtain ⟨hc91, h⟩ := chk_some h
        refine go_sld hscr C dL_law_647 hc91 ?_
        refine go_aload_n C dL_law_648 rfl rfl ?_
        refine go_iload C dL_law_649 rfl ?_
        refine go_iconst C dL_law_651 ?_
        refine go_iadd C dL_law_652 ?_
        obtain ⟨hc92, h⟩ := chk_some h
        refine go_sld hscr C dL_law_653 hc92 ?_
        refine go_aload_n C dL_law_654 rfl rfl ?_
        obtain ⟨q93, h93, h⟩ := ob_some h
        refine go_callSX_i C dL_law_655 (ok_L_goodLinks C.hl hB h93) ms_L_143 rfl rfl (Nat.le_of_ble_eq_true rfl) ⟨(Nat.le_of_ble_eq_true rfl), (Nat.le_of_ble_eq_true rfl)⟩ ⟨by omega, by omega⟩ (fun hB93 => ?_)
        refine go_istore (ls2 := [some (.ref b), some (rf G 0), some (rf G 64), some (rf G 79), some (.int (iI v4)), some (.int (iI q93.1)), none, none, none]) C dL_law_658 (Nat.le_of_ble_eq_true rfl) rfl ?_
        refine go_aload_n C dL_law_660 rfl rfl ?_
        refine go_aload_n C dL_law_661 rfl rfl ?_
        refine go_iload C dL_law_662 rfl ?_
        refine go_iconst C dL_law_664 ?_
        refine go_iadd C dL_law_665 ?_
        refine go_sld hscr C dL_law_666 hc91 ?_
        refine go_aload_n C dL_law_667 rfl rfl ?_
        refine go_iload C dL_law_668 rfl ?_
        refine go_iconst C dL_law_670 ?_
        refine go_iadd C dL_law_671 ?_
        refine go_sld hscr C dL_law_672 hc92 ?_
        obtain ⟨q94, h94, h⟩ := ob_some h
        refine go_callV_i C dL_law_673 (ok_X10_goodLinks C.hl hB93 h94) mv_L_145 sh_64 rfl rfl (Nat.le_of_ble_eq_true rfl) ⟨(Nat.le_of_ble_eq_true rfl), (Nat.le_of_ble_eq_true rfl)⟩ ⟨by omega, by omega⟩ (fun hB94 => ?_)
        refine go_istore (ls2 := [some (.ref b), some (rf G 0), some (rf G 64), some (rf G 79), some (.int (iI v4)), some (.int (iI q93.1)), some (.int (iI q94.1)), none, none]) C dL_law_676 (Nat.le_of_ble_eq_true rfl) rfl ?_
        refine go_aload_n C dL_law_678 rfl rfl ?_
        obtain ⟨q95, h95, h⟩ := ob_some h
        refine go_callV_i C dL_law_679 (ok_X10_thrown C.hl hB94 h95) mv_L_118 sh_64 rfl rfl (Nat.le_of_ble_eq_true rfl) ⟨(Nat.le_of_ble_eq_true rfl), (Nat.le_of_ble_eq_true rfl)⟩ ⟨by omega, by omega⟩ (fun hB95 => ?_)
        refine go_iload C dL_law_682 rfl ?_
        obtain ⟨hc96, h⟩ := chk_some h
        obtain ⟨hc97, h⟩ := chk_some h
        refine go_icmp_eq (tgt := 689) C dL_law_684 rfl hc96 hc97 (fun hc98 => ?_) (fun hc98 => ?_)
        · replace h := ite_t hc98 h
          refine go_iload C dL_law_689 rfl ?_
          refine go_if_ne (tgt := 706) C dL_law_691 rfl hc97 (fun hc99 => ?_) (fun hc99 => ?_)
          · replace h := ite_f hc99 h
            refine go_goto (tgt := 2234) C dL_law_706 rfl ?_
            refine go_iinc (ls2 := [some (.ref b), some (rf G 0), some (rf G 64), some (rf G 79), some (.int (iI (v4 + 5))), some (.int (iI q93.1)), some (.int (iI q94.1)), none, none]) C dL_law_2234 rfl (Nat.le_of_ble_eq_true rfl) rfl ?_
            refine go_goto (tgt := 23) C dL_law_2237 rfl ?_
            refine go_wide (kc' := kc + 5) (ks' := ks + 30) (by omega) (by omega) ?_
            refine go_weak (ls' := [some (.ref b), some (rf G 0), some (rf G 64), some (rf G 79), some (.int (iI (v4 + 5))), none, none, none, none]) ⟨rfl, ⟨rfl, ⟨rfl, ⟨rfl, ⟨rfl, trivial⟩⟩⟩⟩⟩ ?_
            exact ih (v4 + 5) q94.2 (kc + 5) (ks + 30) (by omega) (by omega) hB95 h
          · replace h := ite_t hc99 h
            refine go_aload_n C dL_law_694 rfl rfl ?_
            refine go_iconst C dL_law_695 ?_
            refine go_lald (k2 := 1079) C dL_law_696 sh_79 (by decide) ⟨by decide, by decide⟩ rfl ?_
            refine go_iload C dL_law_697 rfl ?_
            obtain ⟨hc100, h⟩ := chk_some h
            refine go_i2l C dL_law_699 hc100 ?_
            refine go_lcmp C dL_law_700 ?_
            refine go_if_eq (tgt := 706) C dL_law_701 rfl (iI_inR _) (fun hc101 => ?_) (fun hc101 => ?_)
            · replace h := ite_t hc101 h
              refine go_goto (tgt := 2234) C dL_law_706 rfl ?_
              refine go_iinc (ls2 := [some (.ref b), some (rf G 0), some (rf G 64), some (rf G 79), some (.int (iI (v4 + 5))), some (.int (iI q93.1)), some (.int (iI q94.1)), none, none]) C dL_law_2234 rfl (Nat.le_of_ble_eq_true rfl) rfl ?_
              refine go_goto (tgt := 23) C dL_law_2237 rfl ?_
              refine go_wide (kc' := kc + 5) (ks' := ks + 30) (by omega) (by omega) ?_
              refine go_weak (ls' := [some (.ref b), some (rf G 0), some (rf G 64), some (rf G 79), some (.int (iI (v4 + 5))), none, none, none, none]) ⟨rfl, ⟨rfl, ⟨rfl, ⟨rfl, ⟨rfl, trivial⟩⟩⟩⟩⟩ ?_
              exact ih (v4 + 5) q94.2 (kc + 5) (ks + 30) (by omega) (by omega) hB95 h
            · replace h := ite_f hc101 h
              refine go_iconst C dL_law_704 ?_
              exact absurd (Option.some.inj h) (by decide)
        · replace h := ite_f hc98 h
          refine go_iconst C dL_law_687 ?_
          exact absurd (Option.some.inj h) (by decide)
      replace h := ite_f hs7 h
      by_cases hs8 : band (zs v4) 63 = 8
      · replace h := ite_t hs8 h
        refine go_tabIn (j := 8) (tgt := 709) C dL_law_39 hs8 (by decide) (by decide) rfl rfl ?_
        refine go_aload_n C dL_law_709 rfl rfl ?_
        obtain ⟨q102, h102, h⟩ := ob_some h
        refine go_callV_i C dL_law_710 (ok_X9_kind C.hl hB h102) mv_L_146 sh_0 rfl rfl (Nat.le_of_ble_eq_true rfl) ⟨(Nat.le_of_ble_eq_true rfl), (Nat.le_of_ble_eq_true rfl)⟩ ⟨by omega, by omega⟩ (fun hB102 => ?_)
        refine go_aload_n C dL_law_713 rfl rfl ?_
        obtain ⟨q103, h103, h⟩ := ob_some h
        refine go_callV_i C dL_law_714 (ok_X10_kind C.hl hB102 h103) mv_L_149 sh_64 rfl rfl (Nat.le_of_ble_eq_true rfl) ⟨(Nat.le_of_ble_eq_true rfl), (Nat.le_of_ble_eq_true rfl)⟩ ⟨by omega, by omega⟩ (fun hB103 => ?_)
        obtain ⟨hc104, h⟩ := chk_some h
        obtain ⟨hc105, h⟩ := chk_some h
        refine go_icmp_eq (tgt := 2234) C dL_law_717 rfl hc104 hc105 (fun hc106 => ?_) (fun hc106 => ?_)
        · replace h := ite_t hc106 h
          refine go_iinc (ls2 := [some (.ref b), some (rf G 0), some (rf G 64), some (rf G 79), some (.int (iI (v4 + 5))), none, none, none, none]) C dL_law_2234 rfl (Nat.le_of_ble_eq_true rfl) rfl ?_
          refine go_goto (tgt := 23) C dL_law_2237 rfl ?_
          refine go_wide (kc' := kc + 5) (ks' := ks + 30) (by omega) (by omega) ?_
          exact ih (v4 + 5) q103.2 (kc + 5) (ks + 30) (by omega) (by omega) hB103 h
        · replace h := ite_f hc106 h
          refine go_iconst C dL_law_720 ?_
          exact absurd (Option.some.inj h) (by decide)
      replace h := ite_f hs8 h
      by_cases hs9 : band (zs v4) 63 = 9
      · replace h := ite_t hs9 h
        refine go_tabIn (j := 9) (tgt := 722) C dL_law_39 hs9 (by decide) (by decide) rfl rfl ?_
        refine go_aload_n C dL_law_722 rfl rfl ?_
        refine go_aload_n C dL_law_723 rfl rfl ?_
        refine go_iload C dL_law_724 rfl ?_
        refine go_iconst C dL_law_726 ?_
        refine go_iadd C dL_law_727 ?_
        obtain ⟨hc107, h⟩ := chk_some h
        refine go_sld hscr C dL_law_728 hc107 ?_
        refine go_aload_n C dL_law_729 rfl rfl ?_
        obtain ⟨q108, h108, h⟩ := ob_some h
        refine go_callSX_i C dL_law_730 (ok_L_label C.hl hB h108) ms_L_150 rfl rfl (Nat.le_of_ble_eq_true rfl) ⟨(Nat.le_of_ble_eq_true rfl), (Nat.le_of_ble_eq_true rfl)⟩ ⟨by omega, by omega⟩ (fun hB108 => ?_)
        refine go_istore (ls2 := [some (.ref b), some (rf G 0), some (rf G 64), some (rf G 79), some (.int (iI v4)), some (.int (iI q108.1)), none, none, none]) C dL_law_733 (Nat.le_of_ble_eq_true rfl) rfl ?_
        refine go_aload_n C dL_law_735 rfl rfl ?_
        refine go_aload_n C dL_law_736 rfl rfl ?_
        refine go_iload C dL_law_737 rfl ?_
        refine go_iconst C dL_law_739 ?_
        refine go_iadd C dL_law_740 ?_
        refine go_sld hscr C dL_law_741 hc107 ?_
        obtain ⟨q109, h109, h⟩ := ob_some h
        refine go_callV_i C dL_law_742 (ok_X10_label C.hl hB108 h109) mv_L_152 sh_64 rfl rfl (Nat.le_of_ble_eq_true rfl) ⟨(Nat.le_of_ble_eq_true rfl), (Nat.le_of_ble_eq_true rfl)⟩ ⟨by omega, by omega⟩ (fun hB109 => ?_)
        refine go_istore (ls2 := [some (.ref b), some (rf G 0), some (rf G 64), some (rf G 79), some (.int (iI v4)), some (.int (iI q108.1)), some (.int (iI q109.1)), none, none]) C dL_law_745 (Nat.le_of_ble_eq_true rfl) rfl ?_
        refine go_aload_n C dL_law_747 rfl rfl ?_
        obtain ⟨q110, h110, h⟩ := ob_some h
        refine go_callV_i C dL_law_748 (ok_X10_thrown C.hl hB109 h110) mv_L_118 sh_64 rfl rfl (Nat.le_of_ble_eq_true rfl) ⟨(Nat.le_of_ble_eq_true rfl), (Nat.le_of_ble_eq_true rfl)⟩ ⟨by omega, by omega⟩ (fun hB110 => ?_)
        refine go_iload C dL_law_751 rfl ?_
        obtain ⟨hc111, h⟩ := chk_some h
        obtain ⟨hc112, h⟩ := chk_some h
        refine go_icmp_eq (tgt := 758) C dL_law_753 rfl hc111 hc112 (fun hc113 => ?_) (fun hc113 => ?_)
        · replace h := ite_t hc113 h
          refine go_iload C dL_law_758 rfl ?_
          refine go_if_ne (tgt := 775) C dL_law_760 rfl hc112 (fun hc114 => ?_) (fun hc114 => ?_)
          · replace h := ite_f hc114 h
            refine go_goto (tgt := 2234) C dL_law_775 rfl ?_
            refine go_iinc (ls2 := [some (.ref b), some (rf G 0), some (rf G 64), some (rf G 79), some (.int (iI (v4 + 5))), some (.int (iI q108.1)), some (.int (iI q109.1)), none, none]) C dL_law_2234 rfl (Nat.le_of_ble_eq_true rfl) rfl ?_
            refine go_goto (tgt := 23) C dL_law_2237 rfl ?_
            refine go_wide (kc' := kc + 5) (ks' := ks + 30) (by omega) (by omega) ?_
            refine go_weak (ls' := [some (.ref b), some (rf G 0), some (rf G 64), some (rf G 79), some (.int (iI (v4 + 5))), none, none, none, none]) ⟨rfl, ⟨rfl, ⟨rfl, ⟨rfl, ⟨rfl, trivial⟩⟩⟩⟩⟩ ?_
            exact ih (v4 + 5) q109.2 (kc + 5) (ks + 30) (by omega) (by omega) hB110 h
          · replace h := ite_t hc114 h
            refine go_aload_n C dL_law_763 rfl rfl ?_
            refine go_iconst C dL_law_764 ?_
            refine go_lald (k2 := 1079) C dL_law_765 sh_79 (by decide) ⟨by decide, by decide⟩ rfl ?_
            refine go_iload C dL_law_766 rfl ?_
            obtain ⟨hc115, h⟩ := chk_some h
            refine go_i2l C dL_law_768 hc115 ?_
            refine go_lcmp C dL_law_769 ?_
            refine go_if_eq (tgt := 775) C dL_law_770 rfl (iI_inR _) (fun hc116 => ?_) (fun hc116 => ?_)
            · replace h := ite_t hc116 h
              refine go_goto (tgt := 2234) C dL_law_775 rfl ?_
              refine go_iinc (ls2 := [some (.ref b), some (rf G 0), some (rf G 64), some (rf G 79), some (.int (iI (v4 + 5))), some (.int (iI q108.1)), some (.int (iI q109.1)), none, none]) C dL_law_2234 rfl (Nat.le_of_ble_eq_true rfl) rfl ?_
              refine go_goto (tgt := 23) C dL_law_2237 rfl ?_
              refine go_wide (kc' := kc + 5) (ks' := ks + 30) (by omega) (by omega) ?_
              refine go_weak (ls' := [some (.ref b), some (rf G 0), some (rf G 64), some (rf G 79), some (.int (iI (v4 + 5))), none, none, none, none]) ⟨rfl, ⟨rfl, ⟨rfl, ⟨rfl, ⟨rfl, trivial⟩⟩⟩⟩⟩ ?_
              exact ih (v4 + 5) q109.2 (kc + 5) (ks + 30) (by omega) (by omega) hB110 h
            · replace h := ite_f hc116 h
              refine go_iconst C dL_law_773 ?_
              exact absurd (Option.some.inj h) (by decide)
        · replace h := ite_f hc113 h
          refine go_iconst C dL_law_756 ?_
          exact absurd (Option.some.inj h) (by decide)
      replace h := ite_f hs9 h
      by_cases hs10 : band (zs v4) 63 = 10
      · replace h := ite_t hs10 h
        refine go_tabIn (j := 10) (tgt := 778) C dL_law_39 hs10 (by decide) (by decide) rfl rfl ?_
        refine go_aload_n C dL_law_778 rfl rfl ?_
        refine go_aload_n C dL_law_779 rfl rfl ?_
        refine go_iload C dL_law_780 rfl ?_
        refine go_iconst C dL_law_782 ?_
        refine go_iadd C dL_law_783 ?_
        obtain ⟨hc117, h⟩ := chk_some h
        refine go_sld hscr C dL_law_784 hc117 ?_
        refine go_aload_n C dL_law_785 rfl rfl ?_
        obtain ⟨q118, h118, h⟩ := ob_some h
        refine go_callSX_i C dL_law_786 (ok_L_nodeWith C.hl hB h118) ms_L_153 rfl rfl (Nat.le_of_ble_eq_true rfl) ⟨(Nat.le_of_ble_eq_true rfl), (Nat.le_of_ble_eq_true rfl)⟩ ⟨by omega, by omega⟩ (fun hB118 => ?_)
        refine go_istore (ls2 := [some (.ref b), some (rf G 0), some (rf G 64), some (rf G 79), some (.int (iI v4)), some (.int (iI q118.1)), none, none, none]) C dL_law_789 (Nat.le_of_ble_eq_true rfl) rfl ?_
        refine go_aload_n C dL_law_791 rfl rfl ?_
        refine go_aload_n C dL_law_792 rfl rfl ?_
        refine go_iload C dL_law_793 rfl ?_
        refine go_iconst C dL_law_795 ?_
        refine go_iadd C dL_law_796 ?_
        refine go_sld hscr C dL_law_797 hc117 ?_
        obtain ⟨q119, h119, h⟩ := ob_some h
        refine go_callV_i C dL_law_798 (ok_X10_nodeWith C.hl hB118 h119) mv_L_155 sh_64 rfl rfl (Nat.le_of_ble_eq_true rfl) ⟨(Nat.le_of_ble_eq_true rfl), (Nat.le_of_ble_eq_true rfl)⟩ ⟨by omega, by omega⟩ (fun hB119 => ?_)
        refine go_istore (ls2 := [some (.ref b), some (rf G 0), some (rf G 64), some (rf G 79), some (.int (iI v4)), some (.int (iI q118.1)), some (.int (iI q119.1)), none, none]) C dL_law_801 (Nat.le_of_ble_eq_true rfl) rfl ?_
        refine go_aload_n C dL_law_803 rfl rfl ?_
        obtain ⟨q120, h120, h⟩ := ob_some h
        refine go_callV_i C dL_law_804 (ok_X10_thrown C.hl hB119 h120) mv_L_118 sh_64 rfl rfl (Nat.le_of_ble_eq_true rfl) ⟨(Nat.le_of_ble_eq_true rfl), (Nat.le_of_ble_eq_true rfl)⟩ ⟨by omega, by omega⟩ (fun hB120 => ?_)
        refine go_iload C dL_law_807 rfl ?_
        obtain ⟨hc121, h⟩ := chk_some h
        obtain ⟨hc122, h⟩ := chk_some h
        refine go_icmp_eq (tgt := 814) C dL_law_809 rfl hc121 hc122 (fun hc123 => ?_) (fun hc123 => ?_)
        · replace h := ite_t hc123 h
          refine go_iload C dL_law_814 rfl ?_
          refine go_if_ne (tgt := 831) C dL_law_816 rfl hc122 (fun hc124 => ?_) (fun hc124 => ?_)
          · replace h := ite_f hc124 h
            refine go_goto (tgt := 2234) C dL_law_831 rfl ?_
            refine go_iinc (ls2 := [some (.ref b), some (rf G 0), some (rf G 64), some (rf G 79), some (.int (iI (v4 + 5))), some (.int (iI q118.1)), some (.int (iI q119.1)), none, none]) C dL_law_2234 rfl (Nat.le_of_ble_eq_true rfl) rfl ?_
            refine go_goto (tgt := 23) C dL_law_2237 rfl ?_
            refine go_wide (kc' := kc + 5) (ks' := ks + 30) (by omega) (by omega) ?_
            refine go_weak (ls' := [some (.ref b), some (rf G 0), some (rf G 64), some (rf G 79), some (.int (iI (v4 + 5))), none, none, none, none]) ⟨rfl, ⟨rfl, ⟨rfl, ⟨rfl, ⟨rfl, trivial⟩⟩⟩⟩⟩ ?_
            exact ih (v4 + 5) q119.2 (kc + 5) (ks + 30) (by omega) (by omega) hB120 h
          · replace h := ite_t hc124 h
            refine go_aload_n C dL_law_819 rfl rfl ?_
            refine go_iconst C dL_law_820 ?_
            refine go_lald (k2 := 1079) C dL_law_821 sh_79 (by decide) ⟨by decide, by decide⟩ rfl ?_
            refine go_iload C dL_law_822 rfl ?_
            obtain ⟨hc125, h⟩ := chk_some h
            refine go_i2l C dL_law_824 hc125 ?_
            refine go_lcmp C dL_law_825 ?_
            refine go_if_eq (tgt := 831) C dL_law_826 rfl (iI_inR _) (fun hc126 => ?_) (fun hc126 => ?_)
            · replace h := ite_t hc126 h
              refine go_goto (tgt := 2234) C dL_law_831 rfl ?_
              refine go_iinc (ls2 := [some (.ref b), some (rf G 0), some (rf G 64), some (rf G 79), some (.int (iI (v4 + 5))), some (.int (iI q118.1)), some (.int (iI q119.1)), none, none]) C dL_law_2234 rfl (Nat.le_of_ble_eq_true rfl) rfl ?_
              refine go_goto (tgt := 23) C dL_law_2237 rfl ?_
              refine go_wide (kc' := kc + 5) (ks' := ks + 30) (by omega) (by omega) ?_
              refine go_weak (ls' := [some (.ref b), some (rf G 0), some (rf G 64), some (rf G 79), some (.int (iI (v4 + 5))), none, none, none, none]) ⟨rfl, ⟨rfl, ⟨rfl, ⟨rfl, ⟨rfl, trivial⟩⟩⟩⟩⟩ ?_
              exact ih (v4 + 5) q119.2 (kc + 5) (ks + 30) (by omega) (by omega) hB120 h
            · replace h := ite_f hc126 h
              refine go_iconst C dL_law_829 ?_
              exact absurd (Option.some.inj h) (by decide)
        · replace h := ite_f hc123 h
          refine go_iconst C dL_law_812 ?_
          exact absurd (Option.some.inj h) (by decide)
      replace h := ite_f hs10 h
      by_cases hs11 : band (zs v4) 63 = 11
      · replace h := ite_t hs11 h
        refine go_tabIn (j := 11) (tgt := 834) C dL_law_39 hs11 (by decide) (by decide) rfl rfl ?_
        refine go_aload_n C dL_law_834 rfl rfl ?_
        refine go_aload_n C dL_law_835 rfl rfl ?_
        refine go_iload C dL_law_836 rfl ?_
        refine go_iconst C dL_law_838 ?_
        refine go_iadd C dL_law_839 ?_
        obtain ⟨hc127, h⟩ := chk_some h
        refine go_sld hscr C dL_law_840 hc127 ?_
        refine go_aload_n C dL_law_841 rfl rfl ?_
        refine go_iload C dL_law_842 rfl ?_
        refine go_iconst C dL_law_844 ?_
        refine go_iadd C dL_law_845 ?_
        obtain ⟨hc128, h⟩ := chk_some h
        refine go_sld hscr C dL_law_846 hc128 ?_
        refine go_aload_n C dL_law_847 rfl rfl ?_
        obtain ⟨q129, h129, h⟩ := ob_some h
        refine go_callSX_i C dL_law_848 (ok_L_setLabels C.hl hB h129) ms_L_156 rfl rfl (Nat.le_of_ble_eq_true rfl) ⟨(Nat.le_of_ble_eq_true rfl), (Nat.le_of_ble_eq_true rfl)⟩ ⟨by omega, by omega⟩ (fun hB129 => ?_)
        refine go_istore (ls2 := [some (.ref b), some (rf G 0), some (rf G 64), some (rf G 79), some (.int (iI v4)), some (.int (iI q129.1)), none, none, none]) C dL_law_851 (Nat.le_of_ble_eq_true rfl) rfl ?_
        refine go_aload_n C dL_law_853 rfl rfl ?_
        refine go_aload_n C dL_law_854 rfl rfl ?_
        refine go_iload C dL_law_855 rfl ?_
        refine go_iconst C dL_law_857 ?_
        refine go_iadd C dL_law_858 ?_
        refine go_sld hscr C dL_law_859 hc127 ?_
        refine go_aload_n C dL_law_860 rfl rfl ?_
        refine go_iload C dL_law_861 rfl ?_
        refine go_iconst C dL_law_863 ?_
        refine go_iadd C dL_law_864 ?_
        refine go_sld hscr C dL_law_865 hc128 ?_
        obtain ⟨q130, h130, h⟩ := ob_some h
        refine go_callV_i C dL_law_866 (ok_X10_setLabels C.hl hB129 h130) mv_L_158 sh_64 rfl rfl (Nat.le_of_ble_eq_true rfl) ⟨(Nat.le_of_ble_eq_true rfl), (Nat.le_of_ble_eq_true rfl)⟩ ⟨by omega, by omega⟩ (fun hB130 => ?_)
        refine go_istore (ls2 := [some (.ref b), some (rf G 0), some (rf G 64), some (rf G 79), some (.int (iI v4)), some (.int (iI q129.1)), some (.int (iI q130.1)), none, none]) C dL_law_869 (Nat.le_of_ble_eq_true rfl) rfl ?_
        refine go_aload_n C dL_law_871 rfl rfl ?_
        obtain ⟨q131, h131, h⟩ := ob_some h
        refine go_callV_i C dL_law_872 (ok_X10_thrown C.hl hB130 h131) mv_L_118 sh_64 rfl rfl (Nat.le_of_ble_eq_true rfl) ⟨(Nat.le_of_ble_eq_true rfl), (Nat.le_of_ble_eq_true rfl)⟩ ⟨by omega, by omega⟩ (fun hB131 => ?_)
        refine go_iload C dL_law_875 rfl ?_
        obtain ⟨hc132, h⟩ := chk_some h
        obtain ⟨hc133, h⟩ := chk_some h
        refine go_icmp_eq (tgt := 882) C dL_law_877 rfl hc132 hc133 (fun hc134 => ?_) (fun hc134 => ?_)
        · replace h := ite_t hc134 h
          refine go_iload C dL_law_882 rfl ?_
          refine go_if_ne (tgt := 899) C dL_law_884 rfl hc133 (fun hc135 => ?_) (fun hc135 => ?_)
          · replace h := ite_f hc135 h
            refine go_goto (tgt := 2234) C dL_law_899 rfl ?_
            refine go_iinc (ls2 := [some (.ref b), some (rf G 0), some (rf G 64), some (rf G 79), some (.int (iI (v4 + 5))), some (.int (iI q129.1)), some (.int (iI q130.1)), none, none]) C dL_law_2234 rfl (Nat.le_of_ble_eq_true rfl) rfl ?_
            refine go_goto (tgt := 23) C dL_law_2237 rfl ?_
            refine go_wide (kc' := kc + 5) (ks' := ks + 30) (by omega) (by omega) ?_
            refine go_weak (ls' := [some (.ref b), some (rf G 0), some (rf G 64), some (rf G 79), some (.int (iI (v4 + 5))), none, none, none, none]) ⟨rfl, ⟨rfl, ⟨rfl, ⟨rfl, ⟨rfl, trivial⟩⟩⟩⟩⟩ ?_
            exact ih (v4 + 5) q130.2 (kc + 5) (ks + 30) (by omega) (by omega) hB131 h
          · replace h := ite_t hc135 h
            refine go_aload_n C dL_law_887 rfl rfl ?_
            refine go_iconst C dL_law_888 ?_
            refine go_lald (k2 := 1079) C dL_law_889 sh_79 (by decide) ⟨by decide, by decide⟩ rfl ?_
            refine go_iload C dL_law_890 rfl ?_
            obtain ⟨hc136, h⟩ := chk_some h
            refine go_i2l C dL_law_892 hc136 ?_
            refine go_lcmp C dL_law_893 ?_
            refine go_if_eq (tgt := 899) C dL_law_894 rfl (iI_inR _) (fun hc137 => ?_) (fun hc137 => ?_)
            · replace h := ite_t hc137 h
              refine go_goto (tgt := 2234) C dL_law_899 rfl ?_
              refine go_iinc (ls2 := [some (.ref b), some (rf G 0), some (rf G 64), some (rf G 79), some (.int (iI (v4 + 5))), some (.int (iI q129.1)), some (.int (iI q130.1)), none, none]) C dL_law_2234 rfl (Nat.le_of_ble_eq_true rfl) rfl ?_
              refine go_goto (tgt := 23) C dL_law_2237 rfl ?_
              refine go_wide (kc' := kc + 5) (ks' := ks + 30) (by omega) (by omega) ?_
              refine go_weak (ls' := [some (.ref b), some (rf G 0), some (rf G 64), some (rf G 79), some (.int (iI (v4 + 5))), none, none, none, none]) ⟨rfl, ⟨rfl, ⟨rfl, ⟨rfl, ⟨rfl, trivial⟩⟩⟩⟩⟩ ?_
              exact ih (v4 + 5) q130.2 (kc + 5) (ks + 30) (by omega) (by omega) hB131 h
            · replace h := ite_f hc137 h
              refine go_iconst C dL_law_897 ?_
              exact absurd (Option.some.inj h) (by decide)
        · replace h := ite_f hc134 h
          refine go_iconst C dL_law_880 ?_
          exact absurd (Option.some.inj h) (by decide)
      replace h := ite_f hs11 h
      by_cases hs12 : band (zs v4) 63 = 12
      · replace h := ite_t hs12 h
        refine go_tabIn (j := 12) (tgt := 902) C dL_law_39 hs12 (by decide) (by decide) rfl rfl ?_
        refine go_aload_n C dL_law_902 rfl rfl ?_
        refine go_aload_n C dL_law_903 rfl rfl ?_
        refine go_iload C dL_law_904 rfl ?_
        refine go_iconst C dL_law_906 ?_
        refine go_iadd C dL_law_907 ?_
        obtain ⟨hc138, h⟩ := chk_some h
        refine go_sld hscr C dL_law_908 hc138 ?_
        refine go_aload_n C dL_law_909 rfl rfl ?_
        refine go_iload C dL_law_910 rfl ?_
        refine go_iconst C dL_law_912 ?_
        refine go_iadd C dL_law_913 ?_
        obtain ⟨hc139, h⟩ := chk_some h
        refine go_sld hscr C dL_law_914 hc139 ?_
        refine go_aload_n C dL_law_915 rfl rfl ?_
        obtain ⟨q140, h140, h⟩ := ob_some h
        refine go_callSX_i C dL_law_916 (ok_L_swapLabels C.hl hB h140) ms_L_159 rfl rfl (Nat.le_of_ble_eq_true rfl) ⟨(Nat.le_of_ble_eq_true rfl), (Nat.le_of_ble_eq_true rfl)⟩ ⟨by omega, by omega⟩ (fun hB140 => ?_)
        refine go_istore (ls2 := [some (.ref b), some (rf G 0), some (rf G 64), some (rf G 79), some (.int (iI v4)), some (.int (iI q140.1)), none, none, none]) C dL_law_919 (Nat.le_of_ble_eq_true rfl) rfl ?_
        refine go_aload_n C dL_law_921 rfl rfl ?_
        refine go_aload_n C dL_law_922 rfl rfl ?_
        refine go_iload C dL_law_923 rfl ?_
        refine go_iconst C dL_law_925 ?_
        refine go_iadd C dL_law_926 ?_
        refine go_sld hscr C dL_law_927 hc138 ?_
        refine go_aload_n C dL_law_928 rfl rfl ?_
        refine go_iload C dL_law_929 rfl ?_
        refine go_iconst C dL_law_931 ?_
        refine go_iadd C dL_law_932 ?_
        refine go_sld hscr C dL_law_933 hc139 ?_
        obtain ⟨q141, h141, h⟩ := ob_some h
        refine go_callV_i C dL_law_934 (ok_X10_swapLabels C.hl hB140 h141) mv_L_161 sh_64 rfl rfl (Nat.le_of_ble_eq_true rfl) ⟨(Nat.le_of_ble_eq_true rfl), (Nat.le_of_ble_eq_true rfl)⟩ ⟨by omega, by omega⟩ (fun hB141 => ?_)
        refine go_istore (ls2 := [some (.ref b), some (rf G 0), some (rf G 64), some (rf G 79), some (.int (iI v4)), some (.int (iI q140.1)), some (.int (iI q141.1)), none, none]) C dL_law_937 (Nat.le_of_ble_eq_true rfl) rfl ?_
        refine go_aload_n C dL_law_939 rfl rfl ?_
        obtain ⟨q142, h142, h⟩ := ob_some h
        refine go_callV_i C dL_law_940 (ok_X10_thrown C.hl hB141 h142) mv_L_118 sh_64 rfl rfl (Nat.le_of_ble_eq_true rfl) ⟨(Nat.le_of_ble_eq_true rfl), (Nat.le_of_ble_eq_true rfl)⟩ ⟨by omega, by omega⟩ (fun hB142 => ?_)
        refine go_iload C dL_law_943 rfl ?_
        obtain ⟨hc143, h⟩ := chk_some h
        obtain ⟨hc144, h⟩ := chk_some h
        refine go_icmp_eq (tgt := 950) C dL_law_945 rfl hc143 hc144 (fun hc145 => ?_) (fun hc145 => ?_)
        · replace h := ite_t hc145 h
          refine go_iload C dL_law_950 rfl ?_
          refine go_if_ne (tgt := 967) C dL_law_952 rfl hc144 (fun hc146 => ?_) (fun hc146 => ?_)
          · replace h := ite_f hc146 h
            refine go_goto (tgt := 2234) C dL_law_967 rfl ?_
            refine go_iinc (ls2 := [some (.ref b), some (rf G 0), some (rf G 64), some (rf G 79), some (.int (iI (v4 + 5))), some (.int (iI q140.1)), some (.int (iI q141.1)), none, none]) C dL_law_2234 rfl (Nat.le_of_ble_eq_true rfl) rfl ?_
            refine go_goto (tgt := 23) C dL_law_2237 rfl ?_
            refine go_wide (kc' := kc + 5) (ks' := ks + 30) (by omega) (by omega) ?_
            refine go_weak (ls' := [some (.ref b), some (rf G 0), some (rf G 64), some (rf G 79), some (.int (iI (v4 + 5))), none, none, none, none]) ⟨rfl, ⟨rfl, ⟨rfl, ⟨rfl, ⟨rfl, trivial⟩⟩⟩⟩⟩ ?_
            exact ih (v4 + 5) q141.2 (kc + 5) (ks + 30) (by omega) (by omega) hB142 h
          · replace h := ite_t hc146 h
            refine go_aload_n C dL_law_955 rfl rfl ?_
            refine go_iconst C dL_law_956 ?_
            refine go_lald (k2 := 1079) C dL_law_957 sh_79 (by decide) ⟨by decide, by decide⟩ rfl ?_
            refine go_iload C dL_law_958 rfl ?_
            obtain ⟨hc147, h⟩ := chk_some h
            refine go_i2l C dL_law_960 hc147 ?_
            refine go_lcmp C dL_law_961 ?_
            refine go_if_eq (tgt := 967) C dL_law_962 rfl (iI_inR _) (fun hc148 => ?_) (fun hc148 => ?_)
            · replace h := ite_t hc148 h
              refine go_goto (tgt := 2234) C dL_law_967 rfl ?_
              refine go_iinc (ls2 := [some (.ref b), some (rf G 0), some (rf G 64), some (rf G 79), some (.int (iI (v4 + 5))), some (.int (iI q140.1)), some (.int (iI q141.1)), none, none]) C dL_law_2234 rfl (Nat.le_of_ble_eq_true rfl) rfl ?_
              refine go_goto (tgt := 23) C dL_law_2237 rfl ?_
              refine go_wide (kc' := kc + 5) (ks' := ks + 30) (by omega) (by omega) ?_
              refine go_weak (ls' := [some (.ref b), some (rf G 0), some (rf G 64), some (rf G 79), some (.int (iI (v4 + 5))), none, none, none, none]) ⟨rfl, ⟨rfl, ⟨rfl, ⟨rfl, ⟨rfl, trivial⟩⟩⟩⟩⟩ ?_
              exact ih (v4 + 5) q141.2 (kc + 5) (ks + 30) (by omega) (by omega) hB142 h
            · replace h := ite_f hc148 h
              refine go_iconst C dL_law_965 ?_
              exact absurd (Option.some.inj h) (by decide)
        · replace h := ite_f hc145 h
          refine go_iconst C dL_law_948 ?_
          exact absurd (Option.some.inj h) (by decide)
      replace h := ite_f hs12 h
      by_cases hs13 : band (zs v4) 63 = 13
      · replace h := ite_t hs13 h
        refine go_tabIn (j := 13) (tgt := 970) C dL_law_39 hs13 (by decide) (by decide) rfl rfl ?_
        refine go_aload_n C dL_law_970 rfl rfl ?_
        refine go_aload_n C dL_law_971 rfl rfl ?_
        refine go_iload C dL_law_972 rfl ?_
        refine go_iconst C dL_law_974 ?_
        refine go_iadd C dL_law_975 ?_
        obtain ⟨hc149, h⟩ := chk_some h
        refine go_sld hscr C dL_law_976 hc149 ?_
        refine go_aload_n C dL_law_977 rfl rfl ?_
        obtain ⟨q150, h150, h⟩ := ob_some h
        refine go_callSX_i C dL_law_978 (ok_L_turn C.hl hB h150) ms_L_162 rfl rfl (Nat.le_of_ble_eq_true rfl) ⟨(Nat.le_of_ble_eq_true rfl), (Nat.le_of_ble_eq_true rfl)⟩ ⟨by omega, by omega⟩ (fun hB150 => ?_)
        refine go_istore (ls2 := [some (.ref b), some (rf G 0), some (rf G 64), some (rf G 79), some (.int (iI v4)), some (.int (iI q150.1)), none, none, none]) C dL_law_981 (Nat.le_of_ble_eq_true rfl) rfl ?_
        refine go_aload_n C dL_law_983 rfl rfl ?_
        refine go_aload_n C dL_law_984 rfl rfl ?_
        refine go_iload C dL_law_985 rfl ?_
        refine go_iconst C dL_law_987 ?_
        refine go_iadd C dL_law_988 ?_
        refine go_sld hscr C dL_law_989 hc149 ?_
        obtain ⟨q151, h151, h⟩ := ob_some h
        refine go_callV_i C dL_law_990 (ok_X10_turn C.hl hB150 h151) mv_L_164 sh_64 rfl rfl (Nat.le_of_ble_eq_true rfl) ⟨(Nat.le_of_ble_eq_true rfl), (Nat.le_of_ble_eq_true rfl)⟩ ⟨by omega, by omega⟩ (fun hB151 => ?_)
        refine go_istore (ls2 := [some (.ref b), some (rf G 0), some (rf G 64), some (rf G 79), some (.int (iI v4)), some (.int (iI q150.1)), some (.int (iI q151.1)), none, none]) C dL_law_993 (Nat.le_of_ble_eq_true rfl) rfl ?_
        refine go_aload_n C dL_law_995 rfl rfl ?_
        obtain ⟨q152, h152, h⟩ := ob_some h
        refine go_callV_i C dL_law_996 (ok_X10_thrown C.hl hB151 h152) mv_L_118 sh_64 rfl rfl (Nat.le_of_ble_eq_true rfl) ⟨(Nat.le_of_ble_eq_true rfl), (Nat.le_of_ble_eq_true rfl)⟩ ⟨by omega, by omega⟩ (fun hB152 => ?_)
        refine go_iload C dL_law_999 rfl ?_
        obtain ⟨hc153, h⟩ := chk_some h
        obtain ⟨hc154, h⟩ := chk_some h
        refine go_icmp_eq (tgt := 1006) C dL_law_1001 rfl hc153 hc154 (fun hc155 => ?_) (fun hc155 => ?_)
        · replace h := ite_t hc155 h
          refine go_iload C dL_law_1006 rfl ?_
          refine go_if_ne (tgt := 1023) C dL_law_1008 rfl hc154 (fun hc156 => ?_) (fun hc156 => ?_)
          · replace h := ite_f hc156 h
            refine go_goto (tgt := 2234) C dL_law_1023 rfl ?_
            refine go_iinc (ls2 := [some (.ref b), some (rf G 0), some (rf G 64), some (rf G 79), some (.int (iI (v4 + 5))), some (.int (iI q150.1)), some (.int (iI q151.1)), none, none]) C dL_law_2234 rfl (Nat.le_of_ble_eq_true rfl) rfl ?_
            refine go_goto (tgt := 23) C dL_law_2237 rfl ?_
            refine go_wide (kc' := kc + 5) (ks' := ks + 30) (by omega) (by omega) ?_
            refine go_weak (ls' := [some (.ref b), some (rf G 0), some (rf G 64), some (rf G 79), some (.int (iI (v4 + 5))), none, none, none, none]) ⟨rfl, ⟨rfl, ⟨rfl, ⟨rfl, ⟨rfl, trivial⟩⟩⟩⟩⟩ ?_
            exact ih (v4 + 5) q151.2 (kc + 5) (ks + 30) (by omega) (by omega) hB152 h
          · replace h := ite_t hc156 h
            refine go_aload_n C dL_law_1011 rfl rfl ?_
            refine go_iconst C dL_law_1012 ?_
            refine go_lald (k2 := 1079) C dL_law_1013 sh_79 (by decide) ⟨by decide, by decide⟩ rfl ?_
            refine go_iload C dL_law_1014 rfl ?_
            obtain ⟨hc157, h⟩ := chk_some h
            refine go_i2l C dL_law_1016 hc157 ?_
            refine go_lcmp C dL_law_1017 ?_
            refine go_if_eq (tgt := 1023) C dL_law_1018 rfl (iI_inR _) (fun hc158 => ?_) (fun hc158 => ?_)
            · replace h := ite_t hc158 h
              refine go_goto (tgt := 2234) C dL_law_1023 rfl ?_
              refine go_iinc (ls2 := [some (.ref b), some (rf G 0), some (rf G 64), some (rf G 79), some (.int (iI (v4 + 5))), some (.int (iI q150.1)), some (.int (iI q151.1)), none, none]) C dL_law_2234 rfl (Nat.le_of_ble_eq_true rfl) rfl ?_
              refine go_goto (tgt := 23) C dL_law_2237 rfl ?_
              refine go_wide (kc' := kc + 5) (ks' := ks + 30) (by omega) (by omega) ?_
              refine go_weak (ls' := [some (.ref b), some (rf G 0), some (rf G 64), some (rf G 79), some (.int (iI (v4 + 5))), none, none, none, none]) ⟨rfl, ⟨rfl, ⟨rfl, ⟨rfl, ⟨rfl, trivial⟩⟩⟩⟩⟩ ?_
              exact ih (v4 + 5) q151.2 (kc + 5) (ks + 30) (by omega) (by omega) hB152 h
            · replace h := ite_f hc158 h
              refine go_iconst C dL_law_1021 ?_
              exact absurd (Option.some.inj h) (by decide)
        · replace h := ite_f hc155 h
          refine go_iconst C dL_law_1004 ?_
          exact absurd (Option.some.inj h) (by decide)
      replace h := ite_f hs13 h
      by_cases hs14 : band (zs v4) 63 = 14
      · replace h := ite_t hs14 h
        refine go_tabIn (j := 14) (tgt := 1026) C dL_law_39 hs14 (by decide) (by decide) rfl rfl ?_
        refine go_aload_n C dL_law_1026 rfl rfl ?_
        refine go_aload_n C dL_law_1027 rfl rfl ?_
        refine go_iload C dL_law_1028 rfl ?_
        refine go_iconst C dL_law_1030 ?_
        refine go_iadd C dL_law_1031 ?_
        obtain ⟨hc159, h⟩ := chk_some h
        refine go_sld hscr C dL_law_1032 hc159 ?_
        refine go_aload_n C dL_law_1033 rfl rfl ?_
        obtain ⟨q160, h160, h⟩ := ob_some h
        refine go_callSX_i C dL_law_1034 (ok_L_shuffle C.hl hB h160) ms_L_165 rfl rfl (Nat.le_of_ble_eq_true rfl) ⟨(Nat.le_of_ble_eq_true rfl), (Nat.le_of_ble_eq_true rfl)⟩ ⟨by omega, by omega⟩ (fun hB160 => ?_)
        refine go_istore (ls2 := [some (.ref b), some (rf G 0), some (rf G 64), some (rf G 79), some (.int (iI v4)), some (.int (iI q160.1)), none, none, none]) C dL_law_1037 (Nat.le_of_ble_eq_true rfl) rfl ?_
        refine go_aload_n C dL_law_1039 rfl rfl ?_
        refine go_aload_n C dL_law_1040 rfl rfl ?_
        refine go_iload C dL_law_1041 rfl ?_
        refine go_iconst C dL_law_1043 ?_
        refine go_iadd C dL_law_1044 ?_
        refine go_sld hscr C dL_law_1045 hc159 ?_
        obtain ⟨q161, h161, h⟩ := ob_some h
        refine go_callV_i C dL_law_1046 (ok_X10_shuffle C.hl hB160 h161) mv_L_167 sh_64 rfl rfl (Nat.le_of_ble_eq_true rfl) ⟨(Nat.le_of_ble_eq_true rfl), (Nat.le_of_ble_eq_true rfl)⟩ ⟨by omega, by omega⟩ (fun hB161 => ?_)
        refine go_istore (ls2 := [some (.ref b), some (rf G 0), some (rf G 64), some (rf G 79), some (.int (iI v4)), some (.int (iI q160.1)), some (.int (iI q161.1)), none, none]) C dL_law_1049 (Nat.le_of_ble_eq_true rfl) rfl ?_
        refine go_aload_n C dL_law_1051 rfl rfl ?_
        obtain ⟨q162, h162, h⟩ := ob_some h
        refine go_callV_i C dL_law_1052 (ok_X10_thrown C.hl hB161 h162) mv_L_118 sh_64 rfl rfl (Nat.le_of_ble_eq_true rfl) ⟨(Nat.le_of_ble_eq_true rfl), (Nat.le_of_ble_eq_true rfl)⟩ ⟨by omega, by omega⟩ (fun hB162 => ?_)
        refine go_iload C dL_law_1055 rfl ?_
        obtain ⟨hc163, h⟩ := chk_some h
        obtain ⟨hc164, h⟩ := chk_some h
        refine go_icmp_eq (tgt := 1062) C dL_law_1057 rfl hc163 hc164 (fun hc165 => ?_) (fun hc165 => ?_)
        · replace h := ite_t hc165 h
          refine go_iload C dL_law_1062 rfl ?_
          refine go_if_ne (tgt := 1079) C dL_law_1064 rfl hc164 (fun hc166 => ?_) (fun hc166 => ?_)
          · replace h := ite_f hc166 h
            refine go_goto (tgt := 2234) C dL_law_1079 rfl ?_
            refine go_iinc (ls2 := [some (.ref b), some (rf G 0), some (rf G 64), some (rf G 79), some (.int (iI (v4 + 5))), some (.int (iI q160.1)), some (.int (iI q161.1)), none, none]) C dL_law_2234 rfl (Nat.le_of_ble_eq_true rfl) rfl ?_
            refine go_goto (tgt := 23) C dL_law_2237 rfl ?_
            refine go_wide (kc' := kc + 5) (ks' := ks + 30) (by omega) (by omega) ?_
            refine go_weak (ls' := [some (.ref b), some (rf G 0), some (rf G 64), some (rf G 79), some (.int (iI (v4 + 5))), none, none, none, none]) ⟨rfl, ⟨rfl, ⟨rfl, ⟨rfl, ⟨rfl, trivial⟩⟩⟩⟩⟩ ?_
            exact ih (v4 + 5) q161.2 (kc + 5) (ks + 30) (by omega) (by omega) hB162 h
          · replace h := ite_t hc166 h
            refine go_aload_n C dL_law_1067 rfl rfl ?_
            refine go_iconst C dL_law_1068 ?_
            refine go_lald (k2 := 1079) C dL_law_1069 sh_79 (by decide) ⟨by decide, by decide⟩ rfl ?_
            refine go_iload C dL_law_1070 rfl ?_
            obtain ⟨hc167, h⟩ := chk_some h
            refine go_i2l C dL_law_1072 hc167 ?_
            refine go_lcmp C dL_law_1073 ?_
            refine go_if_eq (tgt := 1079) C dL_law_1074 rfl (iI_inR _) (fun hc168 => ?_) (fun hc168 => ?_)
            · replace h := ite_t hc168 h
              refine go_goto (tgt := 2234) C dL_law_1079 rfl ?_
              refine go_iinc (ls2 := [some (.ref b), some (rf G 0), some (rf G 64), some (rf G 79), some (.int (iI (v4 + 5))), some (.int (iI q160.1)), some (.int (iI q161.1)), none, none]) C dL_law_2234 rfl (Nat.le_of_ble_eq_true rfl) rfl ?_
              refine go_goto (tgt := 23) C dL_law_2237 rfl ?_
              refine go_wide (kc' := kc + 5) (ks' := ks + 30) (by omega) (by omega) ?_
              refine go_weak (ls' := [some (.ref b), some (rf G 0), some (rf G 64), some (rf G 79), some (.int (iI (v4 + 5))), none, none, none, none]) ⟨rfl, ⟨rfl, ⟨rfl, ⟨rfl, ⟨rfl, trivial⟩⟩⟩⟩⟩ ?_
              exact ih (v4 + 5) q161.2 (kc + 5) (ks + 30) (by omega) (by omega) hB162 h
            · replace h := ite_f hc168 h
              refine go_iconst C dL_law_1077 ?_
              exact absurd (Option.some.inj h) (by decide)
        · replace h := ite_f hc165 h
          refine go_iconst C dL_law_1060 ?_
          exact absurd (Option.some.inj h) (by decide)
      replace h := ite_f hs14 h
      by_cases hs15 : band (zs v4) 63 = 15
      · replace h := ite_t hs15 h
        refine go_tabIn (j := 15) (tgt := 1082) C dL_law_39 hs15 (by decide) (by decide) rfl rfl ?_
        refine go_aload_n C dL_law_1082 rfl rfl ?_
        obtain ⟨q169, h169, h⟩ := ob_some h
        refine go_callV_i C dL_law_1083 (ok_X9_makeTables C.hl hB h169) mv_L_168 sh_0 rfl rfl (Nat.le_of_ble_eq_true rfl) ⟨(Nat.le_of_ble_eq_true rfl), (Nat.le_of_ble_eq_true rfl)⟩ ⟨by omega, by omega⟩ (fun hB169 => ?_)
        refine go_aload_n C dL_law_1086 rfl rfl ?_
        obtain ⟨q170, h170, h⟩ := ob_some h
        refine go_callV_i C dL_law_1087 (ok_X10_makeTables C.hl hB169 h170) mv_L_171 sh_64 rfl rfl (Nat.le_of_ble_eq_true rfl) ⟨(Nat.le_of_ble_eq_true rfl), (Nat.le_of_ble_eq_true rfl)⟩ ⟨by omega, by omega⟩ (fun hB170 => ?_)
        obtain ⟨hc171, h⟩ := chk_some h
        obtain ⟨hc172, h⟩ := chk_some h
        refine go_icmp_eq (tgt := 2234) C dL_law_1090 rfl hc171 hc172 (fun hc173 => ?_) (fun hc173 => ?_)
        · replace h := ite_t hc173 h
          refine go_iinc (ls2 := [some (.ref b), some (rf G 0), some (rf G 64), some (rf G 79), some (.int (iI (v4 + 5))), none, none, none, none]) C dL_law_2234 rfl (Nat.le_of_ble_eq_true rfl) rfl ?_
          refine go_goto (tgt := 23) C dL_law_2237 rfl ?_
          refine go_wide (kc' := kc + 5) (ks' := ks + 30) (by omega) (by omega) ?_
          exact ih (v4 + 5) q170.2 (kc + 5) (ks + 30) (by omega) (by omega) hB170 h
        · replace h := ite_f hc173 h
          refine go_iconst C dL_law_1093 ?_
          exact absurd (Option.some.inj h) (by decide)
      replace h := ite_f hs15 h
      by_cases hs16 : band (zs v4) 63 = 16
      · replace h := ite_t hs16 h
        refine go_tabIn (j := 16) (tgt := 1095) C dL_law_39 hs16 (by decide) (by decide) rfl rfl ?_
        refine go_aload_n C dL_law_1095 rfl rfl ?_
        refine go_aload_n C dL_law_1096 rfl rfl ?_
        refine go_iload C dL_law_1097 rfl ?_
        refine go_iconst C dL_law_1099 ?_
        refine go_iadd C dL_law_1100 ?_
        obtain ⟨hc174, h⟩ := chk_some h
        refine go_sld hscr C dL_law_1101 hc174 ?_
        refine go_aload_n C dL_law_1102 rfl rfl ?_
        refine go_iload C dL_law_1103 rfl ?_
        refine go_iconst C dL_law_1105 ?_
        refine go_iadd C dL_law_1106 ?_
        obtain ⟨hc175, h⟩ := chk_some h
        refine go_sld hscr C dL_law_1107 hc175 ?_
        refine go_aload_n C dL_law_1108 rfl rfl ?_
        refine go_iload C dL_law_1109 rfl ?_
        refine go_iconst C dL_law_1111 ?_
        refine go_iadd C dL_law_1112 ?_
        obtain ⟨hc176, h⟩ := chk_some h
        refine go_sld hscr C dL_law_1113 hc176 ?_
        refine go_aload_n C dL_law_1114 rfl rfl ?_
        refine go_iload C dL_law_1115 rfl ?_
        refine go_iconst C dL_law_1117 ?_
        refine go_iadd C dL_law_1118 ?_
        obtain ⟨hc177, h⟩ := chk_some h
        refine go_sld hscr C dL_law_1119 hc177 ?_
        refine go_aload_n C dL_law_1120 rfl rfl ?_
        obtain ⟨q178, h178, h⟩ := ob_some h
        refine go_callSX_i C dL_law_1121 (ok_L_setRange C.hl hB h178) ms_L_172 rfl rfl (Nat.le_of_ble_eq_true rfl) ⟨(Nat.le_of_ble_eq_true rfl), (Nat.le_of_ble_eq_true rfl)⟩ ⟨by omega, by omega⟩ (fun hB178 => ?_)
        refine go_istore (ls2 := [some (.ref b), some (rf G 0), some (rf G 64), some (rf G 79), some (.int (iI v4)), some (.int (iI q178.1)), none, none, none]) C dL_law_1124 (Nat.le_of_ble_eq_true rfl) rfl ?_
        refine go_aload_n C dL_law_1126 rfl rfl ?_
        refine go_aload_n C dL_law_1127 rfl rfl ?_
        refine go_iload C dL_law_1128 rfl ?_
        refine go_iconst C dL_law_1130 ?_
        refine go_iadd C dL_law_1131 ?_
        refine go_sld hscr C dL_law_1132 hc174 ?_
        refine go_aload_n C dL_law_1133 rfl rfl ?_
        refine go_iload C dL_law_1134 rfl ?_
        refine go_iconst C dL_law_1136 ?_
        refine go_iadd C dL_law_1137 ?_
        refine go_sld hscr C dL_law_1138 hc175 ?_
        refine go_aload_n C dL_law_1139 rfl rfl ?_
        refine go_iload C dL_law_1140 rfl ?_
        refine go_iconst C dL_law_1142 ?_
        refine go_iadd C dL_law_1143 ?_
        refine go_sld hscr C dL_law_1144 hc176 ?_
        refine go_aload_n C dL_law_1145 rfl rfl ?_
        refine go_iload C dL_law_1146 rfl ?_
        refine go_iconst C dL_law_1148 ?_
        refine go_iadd C dL_law_1149 ?_
        refine go_sld hscr C dL_law_1150 hc177 ?_
        obtain ⟨q179, h179, h⟩ := ob_some h
        refine go_callV_i C dL_law_1151 (ok_X10_setRange C.hl hB178 h179) mv_L_175 sh_64 rfl rfl (Nat.le_of_ble_eq_true rfl) ⟨(Nat.le_of_ble_eq_true rfl), (Nat.le_of_ble_eq_true rfl)⟩ ⟨by omega, by omega⟩ (fun hB179 => ?_)
        refine go_istore (ls2 := [some (.ref b), some (rf G 0), some (rf G 64), some (rf G 79), some (.int (iI v4)), some (.int (iI q178.1)), some (.int (iI q179.1)), none, none]) C dL_law_1154 (Nat.le_of_ble_eq_true rfl) rfl ?_
        refine go_aload_n C dL_law_1156 rfl rfl ?_
        obtain ⟨q180, h180, h⟩ := ob_some h
        refine go_callV_i C dL_law_1157 (ok_X10_thrown C.hl hB179 h180) mv_L_118 sh_64 rfl rfl (Nat.le_of_ble_eq_true rfl) ⟨(Nat.le_of_ble_eq_true rfl), (Nat.le_of_ble_eq_true rfl)⟩ ⟨by omega, by omega⟩ (fun hB180 => ?_)
        refine go_iload C dL_law_1160 rfl ?_
        obtain ⟨hc181, h⟩ := chk_some h
        obtain ⟨hc182, h⟩ := chk_some h
        refine go_icmp_eq (tgt := 1167) C dL_law_1162 rfl hc181 hc182 (fun hc183 => ?_) (fun hc183 => ?_)
        · replace h := ite_t hc183 h
          refine go_iload C dL_law_1167 rfl ?_
          refine go_if_ne (tgt := 1184) C dL_law_1169 rfl hc182 (fun hc184 => ?_) (fun hc184 => ?_)
          · replace h := ite_f hc184 h
            refine go_goto (tgt := 2234) C dL_law_1184 rfl ?_
            refine go_iinc (ls2 := [some (.ref b), some (rf G 0), some (rf G 64), some (rf G 79), some (.int (iI (v4 + 5))), some (.int (iI q178.1)), some (.int (iI q179.1)), none, none]) C dL_law_2234 rfl (Nat.le_of_ble_eq_true rfl) rfl ?_
            refine go_goto (tgt := 23) C dL_law_2237 rfl ?_
            refine go_wide (kc' := kc + 5) (ks' := ks + 30) (by omega) (by omega) ?_
            refine go_weak (ls' := [some (.ref b), some (rf G 0), some (rf G 64), some (rf G 79), some (.int (iI (v4 + 5))), none, none, none, none]) ⟨rfl, ⟨rfl, ⟨rfl, ⟨rfl, ⟨rfl, trivial⟩⟩⟩⟩⟩ ?_
            exact ih (v4 + 5) q179.2 (kc + 5) (ks + 30) (by omega) (by omega) hB180 h
          · replace h := ite_t hc184 h
            refine go_aload_n C dL_law_1172 rfl rfl ?_
            refine go_iconst C dL_law_1173 ?_
            refine go_lald (k2 := 1079) C dL_law_1174 sh_79 (by decide) ⟨by decide, by decide⟩ rfl ?_
            refine go_iload C dL_law_1175 rfl ?_
            obtain ⟨hc185, h⟩ := chk_some h
            refine go_i2l C dL_law_1177 hc185 ?_
            refine go_lcmp C dL_law_1178 ?_
            refine go_if_eq (tgt := 1184) C dL_law_1179 rfl (iI_inR _) (fun hc186 => ?_) (fun hc186 => ?_)
            · replace h := ite_t hc186 h
              refine go_goto (tgt := 2234) C dL_law_1184 rfl ?_
              refine go_iinc (ls2 := [some (.ref b), some (rf G 0), some (rf G 64), some (rf G 79), some (.int (iI (v4 + 5))), some (.int (iI q178.1)), some (.int (iI q179.1)), none, none]) C dL_law_2234 rfl (Nat.le_of_ble_eq_true rfl) rfl ?_
              refine go_goto (tgt := 23) C dL_law_2237 rfl ?_
              refine go_wide (kc' := kc + 5) (ks' := ks + 30) (by omega) (by omega) ?_
              refine go_weak (ls' := [some (.ref b), some (rf G 0), some (rf G 64), some (rf G 79), some (.int (iI (v4 + 5))), none, none, none, none]) ⟨rfl, ⟨rfl, ⟨rfl, ⟨rfl, ⟨rfl, trivial⟩⟩⟩⟩⟩ ?_
              exact ih (v4 + 5) q179.2 (kc + 5) (ks + 30) (by omega) (by omega) hB180 h
            · replace h := ite_f hc186 h
              refine go_iconst C dL_law_1182 ?_
              exact absurd (Option.some.inj h) (by decide)
        · replace h := ite_f hc183 h
          refine go_iconst C dL_law_1165 ?_
          exact absurd (Option.some.inj h) (by decide)
      replace h := ite_f hs16 h
      by_cases hs17 : band (zs v4) 63 = 17
      · replace h := ite_t hs17 h
        refine go_tabIn (j := 17) (tgt := 1187) C dL_law_39 hs17 (by decide) (by decide) rfl rfl ?_
        refine go_aload_n C dL_law_1187 rfl rfl ?_
        refine go_aload_n C dL_law_1188 rfl rfl ?_
        refine go_iload C dL_law_1189 rfl ?_
        refine go_iconst C dL_law_1191 ?_
        refine go_iadd C dL_law_1192 ?_
        obtain ⟨hc187, h⟩ := chk_some h
        refine go_sld hscr C dL_law_1193 hc187 ?_
        refine go_aload_n C dL_law_1194 rfl rfl ?_
        refine go_iload C dL_law_1195 rfl ?_
        refine go_iconst C dL_law_1197 ?_
        refine go_iadd C dL_law_1198 ?_
        obtain ⟨hc188, h⟩ := chk_some h
        refine go_sld hscr C dL_law_1199 hc188 ?_
        refine go_aload_n C dL_law_1200 rfl rfl ?_
        obtain ⟨q189, h189, h⟩ := ob_some h
        refine go_callSX_i C dL_law_1201 (ok_L_entry C.hl hB h189) ms_L_176 rfl rfl (Nat.le_of_ble_eq_true rfl) ⟨(Nat.le_of_ble_eq_true rfl), (Nat.le_of_ble_eq_true rfl)⟩ ⟨by omega, by omega⟩ (fun hB189 => ?_)
        refine go_istore (ls2 := [some (.ref b), some (rf G 0), some (rf G 64), some (rf G 79), some (.int (iI v4)), some (.int (iI q189.1)), none, none, none]) C dL_law_1204 (Nat.le_of_ble_eq_true rfl) rfl ?_
        refine go_aload_n C dL_law_1206 rfl rfl ?_
        refine go_aload_n C dL_law_1207 rfl rfl ?_
        refine go_iload C dL_law_1208 rfl ?_
        refine go_iconst C dL_law_1210 ?_
        refine go_iadd C dL_law_1211 ?_
        refine go_sld hscr C dL_law_1212 hc187 ?_
        refine go_aload_n C dL_law_1213 rfl rfl ?_
        refine go_iload C dL_law_1214 rfl ?_
        refine go_iconst C dL_law_1216 ?_
        refine go_iadd C dL_law_1217 ?_
        refine go_sld hscr C dL_law_1218 hc188 ?_
        obtain ⟨q190, h190, h⟩ := ob_some h
        refine go_callV_i C dL_law_1219 (ok_X10_entry C.hl hB189 h190) mv_L_178 sh_64 rfl rfl (Nat.le_of_ble_eq_true rfl) ⟨(Nat.le_of_ble_eq_true rfl), (Nat.le_of_ble_eq_true rfl)⟩ ⟨by omega, by omega⟩ (fun hB190 => ?_)
        refine go_istore (ls2 := [some (.ref b), some (rf G 0), some (rf G 64), some (rf G 79), some (.int (iI v4)), some (.int (iI q189.1)), some (.int (iI q190.1)), none, none]) C dL_law_1222 (Nat.le_of_ble_eq_true rfl) rfl ?_
        refine go_aload_n C dL_law_1224 rfl rfl ?_
        obtain ⟨q191, h191, h⟩ := ob_some h
        refine go_callV_i C dL_law_1225 (ok_X10_thrown C.hl hB190 h191) mv_L_118 sh_64 rfl rfl (Nat.le_of_ble_eq_true rfl) ⟨(Nat.le_of_ble_eq_true rfl), (Nat.le_of_ble_eq_true rfl)⟩ ⟨by omega, by omega⟩ (fun hB191 => ?_)
        refine go_iload C dL_law_1228 rfl ?_
        obtain ⟨hc192, h⟩ := chk_some h
        obtain ⟨hc193, h⟩ := chk_some h
        refine go_icmp_eq (tgt := 1235) C dL_law_1230 rfl hc192 hc193 (fun hc194 => ?_) (fun hc194 => ?_)
        · replace h := ite_t hc194 h
          refine go_iload C dL_law_1235 rfl ?_
          refine go_if_ne (tgt := 1252) C dL_law_1237 rfl hc193 (fun hc195 => ?_) (fun hc195 => ?_)
          · replace h := ite_f hc195 h
            refine go_goto (tgt := 2234) C dL_law_1252 rfl ?_
            refine go_iinc (ls2 := [some (.ref b), some (rf G 0), some (rf G 64), some (rf G 79), some (.int (iI (v4 + 5))), some (.int (iI q189.1)), some (.int (iI q190.1)), none, none]) C dL_law_2234 rfl (Nat.le_of_ble_eq_true rfl) rfl ?_
            refine go_goto (tgt := 23) C dL_law_2237 rfl ?_
            refine go_wide (kc' := kc + 5) (ks' := ks + 30) (by omega) (by omega) ?_
            refine go_weak (ls' := [some (.ref b), some (rf G 0), some (rf G 64), some (rf G 79), some (.int (iI (v4 + 5))), none, none, none, none]) ⟨rfl, ⟨rfl, ⟨rfl, ⟨rfl, ⟨rfl, trivial⟩⟩⟩⟩⟩ ?_
            exact ih (v4 + 5) q190.2 (kc + 5) (ks + 30) (by omega) (by omega) hB191 h
          · replace h := ite_t hc195 h
            refine go_aload_n C dL_law_1240 rfl rfl ?_
            refine go_iconst C dL_law_1241 ?_
            refine go_lald (k2 := 1079) C dL_law_1242 sh_79 (by decide) ⟨by decide, by decide⟩ rfl ?_
            refine go_iload C dL_law_1243 rfl ?_
            obtain ⟨hc196, h⟩ := chk_some h
            refine go_i2l C dL_law_1245 hc196 ?_
            refine go_lcmp C dL_law_1246 ?_
            refine go_if_eq (tgt := 1252) C dL_law_1247 rfl (iI_inR _) (fun hc197 => ?_) (fun hc197 => ?_)
            · replace h := ite_t hc197 h
              refine go_goto (tgt := 2234) C dL_law_1252 rfl ?_
              refine go_iinc (ls2 := [some (.ref b), some (rf G 0), some (rf G 64), some (rf G 79), some (.int (iI (v4 + 5))), some (.int (iI q189.1)), some (.int (iI q190.1)), none, none]) C dL_law_2234 rfl (Nat.le_of_ble_eq_true rfl) rfl ?_
              refine go_goto (tgt := 23) C dL_law_2237 rfl ?_
              refine go_wide (kc' := kc + 5) (ks' := ks + 30) (by omega) (by omega) ?_
              refine go_weak (ls' := [some (.ref b), some (rf G 0), some (rf G 64), some (rf G 79), some (.int (iI (v4 + 5))), none, none, none, none]) ⟨rfl, ⟨rfl, ⟨rfl, ⟨rfl, ⟨rfl, trivial⟩⟩⟩⟩⟩ ?_
              exact ih (v4 + 5) q190.2 (kc + 5) (ks + 30) (by omega) (by omega) hB191 h
            · replace h := ite_f hc197 h
              refine go_iconst C dL_law_1250 ?_
              exact absurd (Option.some.inj h) (by decide)
        · replace h := ite_f hc194 h
          refine go_iconst C dL_law_1233 ?_
          exact absurd (Option.some.inj h) (by decide)
      replace h := ite_f hs17 h
      by_cases hs18 : band (zs v4) 63 = 18
      · replace h := ite_t hs18 h
        refine go_tabIn (j := 18) (tgt := 1255) C dL_law_39 hs18 (by decide) (by decide) rfl rfl ?_
        refine go_aload_n C dL_law_1255 rfl rfl ?_
        refine go_aload_n C dL_law_1256 rfl rfl ?_
        refine go_iload C dL_law_1257 rfl ?_
        refine go_iconst C dL_law_1259 ?_
        refine go_iadd C dL_law_1260 ?_
        obtain ⟨hc198, h⟩ := chk_some h
        refine go_sld hscr C dL_law_1261 hc198 ?_
        refine go_aload_n C dL_law_1262 rfl rfl ?_
        refine go_iload C dL_law_1263 rfl ?_
        refine go_iconst C dL_law_1265 ?_
        refine go_iadd C dL_law_1266 ?_
        obtain ⟨hc199, h⟩ := chk_some h
        refine go_sld hscr C dL_law_1267 hc199 ?_
        refine go_aload_n C dL_law_1268 rfl rfl ?_
        obtain ⟨q200, h200, h⟩ := ob_some h
        refine go_callSX_i C dL_law_1269 (ok_L_runs C.hl hB h200) ms_L_179 rfl rfl (Nat.le_of_ble_eq_true rfl) ⟨(Nat.le_of_ble_eq_true rfl), (Nat.le_of_ble_eq_true rfl)⟩ ⟨by omega, by omega⟩ (fun hB200 => ?_)
        refine go_istore (ls2 := [some (.ref b), some (rf G 0), some (rf G 64), some (rf G 79), some (.int (iI v4)), some (.int (iI q200.1)), none, none, none]) C dL_law_1272 (Nat.le_of_ble_eq_true rfl) rfl ?_
        refine go_aload_n C dL_law_1274 rfl rfl ?_
        refine go_aload_n C dL_law_1275 rfl rfl ?_
        refine go_iload C dL_law_1276 rfl ?_
        refine go_iconst C dL_law_1278 ?_
        refine go_iadd C dL_law_1279 ?_
        refine go_sld hscr C dL_law_1280 hc198 ?_
        refine go_aload_n C dL_law_1281 rfl rfl ?_
        refine go_iload C dL_law_1282 rfl ?_
        refine go_iconst C dL_law_1284 ?_
        refine go_iadd C dL_law_1285 ?_
        refine go_sld hscr C dL_law_1286 hc199 ?_
        obtain ⟨q201, h201, h⟩ := ob_some h
        refine go_callV_i C dL_law_1287 (ok_X10_runs C.hl hB200 h201) mv_L_181 sh_64 rfl rfl (Nat.le_of_ble_eq_true rfl) ⟨(Nat.le_of_ble_eq_true rfl), (Nat.le_of_ble_eq_true rfl)⟩ ⟨by omega, by omega⟩ (fun hB201 => ?_)
        refine go_istore (ls2 := [some (.ref b), some (rf G 0), some (rf G 64), some (rf G 79), some (.int (iI v4)), some (.int (iI q200.1)), some (.int (iI q201.1)), none, none]) C dL_law_1290 (Nat.le_of_ble_eq_true rfl) rfl ?_
        refine go_aload_n C dL_law_1292 rfl rfl ?_
        obtain ⟨q202, h202, h⟩ := ob_some h
        refine go_callV_i C dL_law_1293 (ok_X10_thrown C.hl hB201 h202) mv_L_118 sh_64 rfl rfl (Nat.le_of_ble_eq_true rfl) ⟨(Nat.le_of_ble_eq_true rfl), (Nat.le_of_ble_eq_true rfl)⟩ ⟨by omega, by omega⟩ (fun hB202 => ?_)
        refine go_iload C dL_law_1296 rfl ?_
        obtain ⟨hc203, h⟩ := chk_some h
        obtain ⟨hc204, h⟩ := chk_some h
        refine go_icmp_eq (tgt := 1303) C dL_law_1298 rfl hc203 hc204 (fun hc205 => ?_) (fun hc205 => ?_)
        · replace h := ite_t hc205 h
          refine go_iload C dL_law_1303 rfl ?_
          refine go_if_ne (tgt := 1320) C dL_law_1305 rfl hc204 (fun hc206 => ?_) (fun hc206 => ?_)
          · replace h := ite_f hc206 h
            refine go_goto (tgt := 2234) C dL_law_1320 rfl ?_
            refine go_iinc (ls2 := [some (.ref b), some (rf G 0), some (rf G 64), some (rf G 79), some (.int (iI (v4 + 5))), some (.int (iI q200.1)), some (.int (iI q201.1)), none, none]) C dL_law_2234 rfl (Nat.le_of_ble_eq_true rfl) rfl ?_
            refine go_goto (tgt := 23) C dL_law_2237 rfl ?_
            refine go_wide (kc' := kc + 5) (ks' := ks + 30) (by omega) (by omega) ?_
            refine go_weak (ls' := [some (.ref b), some (rf G 0), some (rf G 64), some (rf G 79), some (.int (iI (v4 + 5))), none, none, none, none]) ⟨rfl, ⟨rfl, ⟨rfl, ⟨rfl, ⟨rfl, trivial⟩⟩⟩⟩⟩ ?_
            exact ih (v4 + 5) q201.2 (kc + 5) (ks + 30) (by omega) (by omega) hB202 h
          · replace h := ite_t hc206 h
            refine go_aload_n C dL_law_1308 rfl rfl ?_
            refine go_iconst C dL_law_1309 ?_
            refine go_lald (k2 := 1079) C dL_law_1310 sh_79 (by decide) ⟨by decide, by decide⟩ rfl ?_
            refine go_iload C dL_law_1311 rfl ?_
            obtain ⟨hc207, h⟩ := chk_some h
            refine go_i2l C dL_law_1313 hc207 ?_
            refine go_lcmp C dL_law_1314 ?_
            refine go_if_eq (tgt := 1320) C dL_law_1315 rfl (iI_inR _) (fun hc208 => ?_) (fun hc208 => ?_)
            · replace h := ite_t hc208 h
              refine go_goto (tgt := 2234) C dL_law_1320 rfl ?_
              refine go_iinc (ls2 := [some (.ref b), some (rf G 0), some (rf G 64), some (rf G 79), some (.int (iI (v4 + 5))), some (.int (iI q200.1)), some (.int (iI q201.1)), none, none]) C dL_law_2234 rfl (Nat.le_of_ble_eq_true rfl) rfl ?_
              refine go_goto (tgt := 23) C dL_law_2237 rfl ?_
              refine go_wide (kc' := kc + 5) (ks' := ks + 30) (by omega) (by omega) ?_
              refine go_weak (ls' := [some (.ref b), some (rf G 0), some (rf G 64), some (rf G 79), some (.int (iI (v4 + 5))), none, none, none, none]) ⟨rfl, ⟨rfl, ⟨rfl, ⟨rfl, ⟨rfl, trivial⟩⟩⟩⟩⟩ ?_
              exact ih (v4 + 5) q201.2 (kc + 5) (ks + 30) (by omega) (by omega) hB202 h
            · replace h := ite_f hc208 h
              refine go_iconst C dL_law_1318 ?_
              exact absurd (Option.some.inj h) (by decide)
        · replace h := ite_f hc205 h
          refine go_iconst C dL_law_1301 ?_
          exact absurd (Option.some.inj h) (by decide)
      replace h := ite_f hs18 h
      by_cases hs19 : band (zs v4) 63 = 19
      · replace h := ite_t hs19 h
        refine go_tabIn (j := 19) (tgt := 1323) C dL_law_39 hs19 (by decide) (by decide) rfl rfl ?_
        refine go_aload_n C dL_law_1323 rfl rfl ?_
        refine go_aload_n C dL_law_1324 rfl rfl ?_
        refine go_iload C dL_law_1325 rfl ?_
        refine go_iconst C dL_law_1327 ?_
        refine go_iadd C dL_law_1328 ?_
        obtain ⟨hc209, h⟩ := chk_some h
        refine go_sld hscr C dL_law_1329 hc209 ?_
        refine go_aload_n C dL_law_1330 rfl rfl ?_
        refine go_iload C dL_law_1331 rfl ?_
        refine go_iconst C dL_law_1333 ?_
        refine go_iadd C dL_law_1334 ?_
        obtain ⟨hc210, h⟩ := chk_some h
        refine go_sld hscr C dL_law_1335 hc210 ?_
        refine go_aload_n C dL_law_1336 rfl rfl ?_
        refine go_iload C dL_law_1337 rfl ?_
        refine go_iconst C dL_law_1339 ?_
        refine go_iadd C dL_law_1340 ?_
        obtain ⟨hc211, h⟩ := chk_some h
        refine go_sld hscr C dL_law_1341 hc211 ?_
        refine go_aload_n C dL_law_1342 rfl rfl ?_
        refine go_iload C dL_law_1343 rfl ?_
        refine go_iconst C dL_law_1345 ?_
        refine go_iadd C dL_law_1346 ?_
        obtain ⟨hc212, h⟩ := chk_some h
        refine go_sld hscr C dL_law_1347 hc212 ?_
        refine go_if_eq (tgt := 1355) C dL_law_1348 rfl (hzs (v4 + 4)) (fun hc213 => ?_) (fun hc213 => ?_)
        · replace h := ite_t hc213 h
          refine go_iconst C dL_law_1355 ?_
          refine go_aload_n C dL_law_1356 rfl rfl ?_
          obtain ⟨q214, h214, h⟩ := ob_some h
          refine go_callSX_i C dL_law_1357 (ok_L_runEnd C.hl hB h214) ms_L_182 rfl rfl (Nat.le_of_ble_eq_true rfl) ⟨(Nat.le_of_ble_eq_true rfl), (Nat.le_of_ble_eq_true rfl)⟩ ⟨by omega, by omega⟩ (fun hB214 => ?_)
          refine go_istore (ls2 := [some (.ref b), some (rf G 0), some (rf G 64), some (rf G 79), some (.int (iI v4)), some (.int (iI q214.1)), none, none, none]) C dL_law_1360 (Nat.le_of_ble_eq_true rfl) rfl ?_
          refine go_aload_n C dL_law_1362 rfl rfl ?_
          refine go_aload_n C dL_law_1363 rfl rfl ?_
          refine go_iload C dL_law_1364 rfl ?_
          refine go_iconst C dL_law_1366 ?_
          refine go_iadd C dL_law_1367 ?_
          refine go_sld hscr C dL_law_1368 hc209 ?_
          refine go_aload_n C dL_law_1369 rfl rfl ?_
          refine go_iload C dL_law_1370 rfl ?_
          refine go_iconst C dL_law_1372 ?_
          refine go_iadd C dL_law_1373 ?_
          refine go_sld hscr C dL_law_1374 hc210 ?_
          refine go_aload_n C dL_law_1375 rfl rfl ?_
          refine go_iload C dL_law_1376 rfl ?_
          refine go_iconst C dL_law_1378 ?_
          refine go_iadd C dL_law_1379 ?_
          refine go_sld hscr C dL_law_1380 hc211 ?_
          refine go_aload_n C dL_law_1381 rfl rfl ?_
          refine go_iload C dL_law_1382 rfl ?_
          refine go_iconst C dL_law_1384 ?_
          refine go_iadd C dL_law_1385 ?_
          refine go_sld hscr C dL_law_1386 hc212 ?_
          refine go_if_eq (tgt := 1394) C dL_law_1387 rfl (hzs (v4 + 4)) (fun hc215 => ?_) (fun hc215 => ?_)
          · replace h := ite_t hc215 h
            refine go_iconst C dL_law_1394 ?_
            obtain ⟨q216, h216, h⟩ := ob_some h
            refine go_callV_i C dL_law_1395 (ok_X10_runEnd C.hl hB214 h216) mv_L_185 sh_64 rfl rfl (Nat.le_of_ble_eq_true rfl) ⟨(Nat.le_of_ble_eq_true rfl), (Nat.le_of_ble_eq_true rfl)⟩ ⟨by omega, by omega⟩ (fun hB216 => ?_)
            refine go_istore (ls2 := [some (.ref b), some (rf G 0), some (rf G 64), some (rf G 79), some (.int (iI v4)), some (.int (iI q214.1)), some (.int (iI q216.1)), none, none]) C dL_law_1398 (Nat.le_of_ble_eq_true rfl) rfl ?_
            refine go_aload_n C dL_law_1400 rfl rfl ?_
            obtain ⟨q217, h217, h⟩ := ob_some h
            refine go_callV_i C dL_law_1401 (ok_X10_thrown C.hl hB216 h217) mv_L_118 sh_64 rfl rfl (Nat.le_of_ble_eq_true rfl) ⟨(Nat.le_of_ble_eq_true rfl), (Nat.le_of_ble_eq_true rfl)⟩ ⟨by omega, by omega⟩ (fun hB217 => ?_)
            refine go_iload C dL_law_1404 rfl ?_
            obtain ⟨hc218, h⟩ := chk_some h
            obtain ⟨hc219, h⟩ := chk_some h
            refine go_icmp_eq (tgt := 1411) C dL_law_1406 rfl hc218 hc219 (fun hc220 => ?_) (fun hc220 => ?_)
            · replace h := ite_t hc220 h
              refine go_iload C dL_law_1411 rfl ?_
              refine go_if_ne (tgt := 1428) C dL_law_1413 rfl hc219 (fun hc221 => ?_) (fun hc221 => ?_)
              · replace h := ite_f hc221 h
                refine go_goto (tgt := 2234) C dL_law_1428 rfl ?_
                refine go_iinc (ls2 := [some (.ref b), some (rf G 0), some (rf G 64), some (rf G 79), some (.int (iI (v4 + 5))), some (.int (iI q214.1)), some (.int (iI q216.1)), none, none]) C dL_law_2234 rfl (Nat.le_of_ble_eq_true rfl) rfl ?_
                refine go_goto (tgt := 23) C dL_law_2237 rfl ?_
                refine go_wide (kc' := kc + 5) (ks' := ks + 30) (by omega) (by omega) ?_
                refine go_weak (ls' := [some (.ref b), some (rf G 0), some (rf G 64), some (rf G 79), some (.int (iI (v4 + 5))), none, none, none, none]) ⟨rfl, ⟨rfl, ⟨rfl, ⟨rfl, ⟨rfl, trivial⟩⟩⟩⟩⟩ ?_
                exact ih (v4 + 5) q216.2 (kc + 5) (ks + 30) (by omega) (by omega) hB217 h
              · replace h := ite_t hc221 h
                refine go_aload_n C dL_law_1416 rfl rfl ?_
                refine go_iconst C dL_law_1417 ?_
                refine go_lald (k2 := 1079) C dL_law_1418 sh_79 (by decide) ⟨by decide, by decide⟩ rfl ?_
                refine go_iload C dL_law_1419 rfl ?_
                obtain ⟨hc222, h⟩ := chk_some h
                refine go_i2l C dL_law_1421 hc222 ?_
                refine go_lcmp C dL_law_1422 ?_
                refine go_if_eq (tgt := 1428) C dL_law_1423 rfl (iI_inR _) (fun hc223 => ?_) (fun hc223 => ?_)
                · replace h := ite_t hc223 h
                  refine go_goto (tgt := 2234) C dL_law_1428 rfl ?_
                  refine go_iinc (ls2 := [some (.ref b), some (rf G 0), some (rf G 64), some (rf G 79), some (.int (iI (v4 + 5))), some (.int (iI q214.1)), some (.int (iI q216.1)), none, none]) C dL_law_2234 rfl (Nat.le_of_ble_eq_true rfl) rfl ?_
                  refine go_goto (tgt := 23) C dL_law_2237 rfl ?_
                  refine go_wide (kc' := kc + 5) (ks' := ks + 30) (by omega) (by omega) ?_
                  refine go_weak (ls' := [some (.ref b), some (rf G 0), some (rf G 64), some (rf G 79), some (.int (iI (v4 + 5))), none, none, none, none]) ⟨rfl, ⟨rfl, ⟨rfl, ⟨rfl, ⟨rfl, trivial⟩⟩⟩⟩⟩ ?_
                  exact ih (v4 + 5) q216.2 (kc + 5) (ks + 30) (by omega) (by omega) hB217 h
                · replace h := ite_f hc223 h
                  refine go_iconst C dL_law_1426 ?_
                  exact absurd (Option.some.inj h) (by decide)
            · replace h := ite_f hc220 h
              refine go_iconst C dL_law_1409 ?_
              exact absurd (Option.some.inj h) (by decide)
          · replace h := ite_f hc215 h
            refine go_iconst C dL_law_1390 ?_
            refine go_goto (tgt := 1395) C dL_law_1391 rfl ?_
            obtain ⟨q224, h224, h⟩ := ob_some h
            refine go_callV_i C dL_law_1395 (ok_X10_runEnd C.hl hB214 h224) mv_L_185 sh_64 rfl rfl (Nat.le_of_ble_eq_true rfl) ⟨(Nat.le_of_ble_eq_true rfl), (Nat.le_of_ble_eq_true rfl)⟩ ⟨by omega, by omega⟩ (fun hB224 => ?_)
            refine go_istore (ls2 := [some (.ref b), some (rf G 0), some (rf G 64), some (rf G 79), some (.int (iI v4)), some (.int (iI q214.1)), some (.int (iI q224.1)), none, none]) C dL_law_1398 (Nat.le_of_ble_eq_true rfl) rfl ?_
            refine go_aload_n C dL_law_1400 rfl rfl ?_
            obtain ⟨q225, h225, h⟩ := ob_some h
            refine go_callV_i C dL_law_1401 (ok_X10_thrown C.hl hB224 h225) mv_L_118 sh_64 rfl rfl (Nat.le_of_ble_eq_true rfl) ⟨(Nat.le_of_ble_eq_true rfl), (Nat.le_of_ble_eq_true rfl)⟩ ⟨by omega, by omega⟩ (fun hB225 => ?_)
            refine go_iload C dL_law_1404 rfl ?_
            obtain ⟨hc226, h⟩ := chk_some h
            obtain ⟨hc227, h⟩ := chk_some h
            refine go_icmp_eq (tgt := 1411) C dL_law_1406 rfl hc226 hc227 (fun hc228 => ?_) (fun hc228 => ?_)
            · replace h := ite_t hc228 h
              refine go_iload C dL_law_1411 rfl ?_
              refine go_if_ne (tgt := 1428) C dL_law_1413 rfl hc227 (fun hc229 => ?_) (fun hc229 => ?_)
              · replace h := ite_f hc229 h
                refine go_goto (tgt := 2234) C dL_law_1428 rfl ?_
                refine go_iinc (ls2 := [some (.ref b), some (rf G 0), some (rf G 64), some (rf G 79), some (.int (iI (v4 + 5))), some (.int (iI q214.1)), some (.int (iI q224.1)), none, none]) C dL_law_2234 rfl (Nat.le_of_ble_eq_true rfl) rfl ?_
                refine go_goto (tgt := 23) C dL_law_2237 rfl ?_
                refine go_wide (kc' := kc + 5) (ks' := ks + 30) (by omega) (by omega) ?_
                refine go_weak (ls' := [some (.ref b), some (rf G 0), some (rf G 64), some (rf G 79), some (.int (iI (v4 + 5))), none, none, none, none]) ⟨rfl, ⟨rfl, ⟨rfl, ⟨rfl, ⟨rfl, trivial⟩⟩⟩⟩⟩ ?_
                exact ih (v4 + 5) q224.2 (kc + 5) (ks + 30) (by omega) (by omega) hB225 h
              · replace h := ite_t hc229 h
                refine go_aload_n C dL_law_1416 rfl rfl ?_
                refine go_iconst C dL_law_1417 ?_
                refine go_lald (k2 := 1079) C dL_law_1418 sh_79 (by decide) ⟨by decide, by decide⟩ rfl ?_
                refine go_iload C dL_law_1419 rfl ?_
                obtain ⟨hc230, h⟩ := chk_some h
                refine go_i2l C dL_law_1421 hc230 ?_
                refine go_lcmp C dL_law_1422 ?_
                refine go_if_eq (tgt := 1428) C dL_law_1423 rfl (iI_inR _) (fun hc231 => ?_) (fun hc231 => ?_)
                · replace h := ite_t hc231 h
                  refine go_goto (tgt := 2234) C dL_law_1428 rfl ?_
                  refine go_iinc (ls2 := [some (.ref b), some (rf G 0), some (rf G 64), some (rf G 79), some (.int (iI (v4 + 5))), some (.int (iI q214.1)), some (.int (iI q224.1)), none, none]) C dL_law_2234 rfl (Nat.le_of_ble_eq_true rfl) rfl ?_
                  refine go_goto (tgt := 23) C dL_law_2237 rfl ?_
                  refine go_wide (kc' := kc + 5) (ks' := ks + 30) (by omega) (by omega) ?_
                  refine go_weak (ls' := [some (.ref b), some (rf G 0), some (rf G 64), some (rf G 79), some (.int (iI (v4 + 5))), none, none, none, none]) ⟨rfl, ⟨rfl, ⟨rfl, ⟨rfl, ⟨rfl, trivial⟩⟩⟩⟩⟩ ?_
                  exact ih (v4 + 5) q224.2 (kc + 5) (ks + 30) (by omega) (by omega) hB225 h
                · replace h := ite_f hc231 h
                  refine go_iconst C dL_law_1426 ?_
                  exact absurd (Option.some.inj h) (by decide)
            · replace h := ite_f hc228 h
              refine go_iconst C dL_law_1409 ?_
              exact absurd (Option.some.inj h) (by decide)
        · replace h := ite_f hc213 h
          refine go_iconst C dL_law_1351 ?_
          refine go_goto (tgt := 1356) C dL_law_1352 rfl ?_
          refine go_aload_n C dL_law_1356 rfl rfl ?_
          obtain ⟨q232, h232, h⟩ := ob_some h
          refine go_callSX_i C dL_law_1357 (ok_L_runEnd C.hl hB h232) ms_L_182 rfl rfl (Nat.le_of_ble_eq_true rfl) ⟨(Nat.le_of_ble_eq_true rfl), (Nat.le_of_ble_eq_true rfl)⟩ ⟨by omega, by omega⟩ (fun hB232 => ?_)
          refine go_istore (ls2 := [some (.ref b), some (rf G 0), some (rf G 64), some (rf G 79), some (.int (iI v4)), some (.int (iI q232.1)), none, none, none]) C dL_law_1360 (Nat.le_of_ble_eq_true rfl) rfl ?_
          refine go_aload_n C dL_law_1362 rfl rfl ?_
          refine go_aload_n C dL_law_1363 rfl rfl ?_
          refine go_iload C dL_law_1364 rfl ?_
          refine go_iconst C dL_law_1366 ?_
          refine go_iadd C dL_law_1367 ?_
          refine go_sld hscr C dL_law_1368 hc209 ?_
          refine go_aload_n C dL_law_1369 rfl rfl ?_
          refine go_iload C dL_law_1370 rfl ?_
          refine go_iconst C dL_law_1372 ?_
          refine go_iadd C dL_law_1373 ?_
          refine go_sld hscr C dL_law_1374 hc210 ?_
          refine go_aload_n C dL_law_1375 rfl rfl ?_
          refine go_iload C dL_law_1376 rfl ?_
          refine go_iconst C dL_law_1378 ?_
          refine go_iadd C dL_law_1379 ?_
          refine go_sld hscr C dL_law_1380 hc211 ?_
          refine go_aload_n C dL_law_1381 rfl rfl ?_
          refine go_iload C dL_law_1382 rfl ?_
          refine go_iconst C dL_law_1384 ?_
          refine go_iadd C dL_law_1385 ?_
          refine go_sld hscr C dL_law_1386 hc212 ?_
          refine go_if_eq (tgt := 1394) C dL_law_1387 rfl (hzs (v4 + 4)) (fun hc233 => ?_) (fun hc233 => ?_)
          · replace h := ite_t hc233 h
            refine go_iconst C dL_law_1394 ?_
            obtain ⟨q234, h234, h⟩ := ob_some h
            refine go_callV_i C dL_law_1395 (ok_X10_runEnd C.hl hB232 h234) mv_L_185 sh_64 rfl rfl (Nat.le_of_ble_eq_true rfl) ⟨(Nat.le_of_ble_eq_true rfl), (Nat.le_of_ble_eq_true rfl)⟩ ⟨by omega, by omega⟩ (fun hB234 => ?_)
            refine go_istore (ls2 := [some (.ref b), some (rf G 0), some (rf G 64), some (rf G 79), some (.int (iI v4)), some (.int (iI q232.1)), some (.int (iI q234.1)), none, none]) C dL_law_1398 (Nat.le_of_ble_eq_true rfl) rfl ?_
            refine go_aload_n C dL_law_1400 rfl rfl ?_
            obtain ⟨q235, h235, h⟩ := ob_some h
            refine go_callV_i C dL_law_1401 (ok_X10_thrown C.hl hB234 h235) mv_L_118 sh_64 rfl rfl (Nat.le_of_ble_eq_true rfl) ⟨(Nat.le_of_ble_eq_true rfl), (Nat.le_of_ble_eq_true rfl)⟩ ⟨by omega, by omega⟩ (fun hB235 => ?_)
            refine go_iload C dL_law_1404 rfl ?_
            obtain ⟨hc236, h⟩ := chk_some h
            obtain ⟨hc237, h⟩ := chk_some h
            refine go_icmp_eq (tgt := 1411) C dL_law_1406 rfl hc236 hc237 (fun hc238 => ?_) (fun hc238 => ?_)
            · replace h := ite_t hc238 h
              refine go_iload C dL_law_1411 rfl ?_
              refine go_if_ne (tgt := 1428) C dL_law_1413 rfl hc237 (fun hc239 => ?_) (fun hc239 => ?_)
              · replace h := ite_f hc239 h
                refine go_goto (tgt := 2234) C dL_law_1428 rfl ?_
                refine go_iinc (ls2 := [some (.ref b), some (rf G 0), some (rf G 64), some (rf G 79), some (.int (iI (v4 + 5))), some (.int (iI q232.1)), some (.int (iI q234.1)), none, none]) C dL_law_2234 rfl (Nat.le_of_ble_eq_true rfl) rfl ?_
                refine go_goto (tgt := 23) C dL_law_2237 rfl ?_
                refine go_wide (kc' := kc + 5) (ks' := ks + 30) (by omega) (by omega) ?_
                refine go_weak (ls' := [some (.ref b), some (rf G 0), some (rf G 64), some (rf G 79), some (.int (iI (v4 + 5))), none, none, none, none]) ⟨rfl, ⟨rfl, ⟨rfl, ⟨rfl, ⟨rfl, trivial⟩⟩⟩⟩⟩ ?_
                exact ih (v4 + 5) q234.2 (kc + 5) (ks + 30) (by omega) (by omega) hB235 h
              · replace h := ite_t hc239 h
                refine go_aload_n C dL_law_1416 rfl rfl ?_
                refine go_iconst C dL_law_1417 ?_
                refine go_lald (k2 := 1079) C dL_law_1418 sh_79 (by decide) ⟨by decide, by decide⟩ rfl ?_
                refine go_iload C dL_law_1419 rfl ?_
                obtain ⟨hc240, h⟩ := chk_some h
                refine go_i2l C dL_law_1421 hc240 ?_
                refine go_lcmp C dL_law_1422 ?_
                refine go_if_eq (tgt := 1428) C dL_law_1423 rfl (iI_inR _) (fun hc241 => ?_) (fun hc241 => ?_)
                · replace h := ite_t hc241 h
                  refine go_goto (tgt := 2234) C dL_law_1428 rfl ?_
                  refine go_iinc (ls2 := [some (.ref b), some (rf G 0), some (rf G 64), some (rf G 79), some (.int (iI (v4 + 5))), some (.int (iI q232.1)), some (.int (iI q234.1)), none, none]) C dL_law_2234 rfl (Nat.le_of_ble_eq_true rfl) rfl ?_
                  refine go_goto (tgt := 23) C dL_law_2237 rfl ?_
                  refine go_wide (kc' := kc + 5) (ks' := ks + 30) (by omega) (by omega) ?_
                  refine go_weak (ls' := [some (.ref b), some (rf G 0), some (rf G 64), some (rf G 79), some (.int (iI (v4 + 5))), none, none, none, none]) ⟨rfl, ⟨rfl, ⟨rfl, ⟨rfl, ⟨rfl, trivial⟩⟩⟩⟩⟩ ?_
                  exact ih (v4 + 5) q234.2 (kc + 5) (ks + 30) (by omega) (by omega) hB235 h
                · replace h := ite_f hc241 h
                  refine go_iconst C dL_law_1426 ?_
                  exact absurd (Option.some.inj h) (by decide)
            · replace h := ite_f hc238 h
              refine go_iconst C dL_law_1409 ?_
              exact absurd (Option.some.inj h) (by decide)
          · replace h := ite_f hc233 h
            refine go_iconst C dL_law_1390 ?_
            refine go_goto (tgt := 1395) C dL_law_1391 rfl ?_
            obtain ⟨q242, h242, h⟩ := ob_some h
            refine go_callV_i C dL_law_1395 (ok_X10_runEnd C.hl hB232 h242) mv_L_185 sh_64 rfl rfl (Nat.le_of_ble_eq_true rfl) ⟨(Nat.le_of_ble_eq_true rfl), (Nat.le_of_ble_eq_true rfl)⟩ ⟨by omega, by omega⟩ (fun hB242 => ?_)
            refine go_istore (ls2 := [some (.ref b), some (rf G 0), some (rf G 64), some (rf G 79), some (.int (iI v4)), some (.int (iI q232.1)), some (.int (iI q242.1)), none, none]) C dL_law_1398 (Nat.le_of_ble_eq_true rfl) rfl ?_
            refine go_aload_n C dL_law_1400 rfl rfl ?_
            obtain ⟨q243, h243, h⟩ := ob_some h
            refine go_callV_i C dL_law_1401 (ok_X10_thrown C.hl hB242 h243) mv_L_118 sh_64 rfl rfl (Nat.le_of_ble_eq_true rfl) ⟨(Nat.le_of_ble_eq_true rfl), (Nat.le_of_ble_eq_true rfl)⟩ ⟨by omega, by omega⟩ (fun hB243 => ?_)
            refine go_iload C dL_law_1404 rfl ?_
            obtain ⟨hc244, h⟩ := chk_some h
            obtain ⟨hc245, h⟩ := chk_some h
            refine go_icmp_eq (tgt := 1411) C dL_law_1406 rfl hc244 hc245 (fun hc246 => ?_) (fun hc246 => ?_)
            · replace h := ite_t hc246 h
              refine go_iload C dL_law_1411 rfl ?_
              refine go_if_ne (tgt := 1428) C dL_law_1413 rfl hc245 (fun hc247 => ?_) (fun hc247 => ?_)
              · replace h := ite_f hc247 h
                refine go_goto (tgt := 2234) C dL_law_1428 rfl ?_
                refine go_iinc (ls2 := [some (.ref b), some (rf G 0), some (rf G 64), some (rf G 79), some (.int (iI (v4 + 5))), some (.int (iI q232.1)), some (.int (iI q242.1)), none, none]) C dL_law_2234 rfl (Nat.le_of_ble_eq_true rfl) rfl ?_
                refine go_goto (tgt := 23) C dL_law_2237 rfl ?_
                refine go_wide (kc' := kc + 5) (ks' := ks + 30) (by omega) (by omega) ?_
                refine go_weak (ls' := [some (.ref b), some (rf G 0), some (rf G 64), some (rf G 79), some (.int (iI (v4 + 5))), none, none, none, none]) ⟨rfl, ⟨rfl, ⟨rfl, ⟨rfl, ⟨rfl, trivial⟩⟩⟩⟩⟩ ?_
                exact ih (v4 + 5) q242.2 (kc + 5) (ks + 30) (by omega) (by omega) hB243 h
              · replace h := ite_t hc247 h
                refine go_aload_n C dL_law_1416 rfl rfl ?_
                refine go_iconst C dL_law_1417 ?_
                refine go_lald (k2 := 1079) C dL_law_1418 sh_79 (by decide) ⟨by decide, by decide⟩ rfl ?_
                refine go_iload C dL_law_1419 rfl ?_
                obtain ⟨hc248, h⟩ := chk_some h
                refine go_i2l C dL_law_1421 hc248 ?_
                refine go_lcmp C dL_law_1422 ?_
                refine go_if_eq (tgt := 1428) C dL_law_1423 rfl (iI_inR _) (fun hc249 => ?_) (fun hc249 => ?_)
                · replace h := ite_t hc249 h
                  refine go_goto (tgt := 2234) C dL_law_1428 rfl ?_
                  refine go_iinc (ls2 := [some (.ref b), some (rf G 0), some (rf G 64), some (rf G 79), some (.int (iI (v4 + 5))), some (.int (iI q232.1)), some (.int (iI q242.1)), none, none]) C dL_law_2234 rfl (Nat.le_of_ble_eq_true rfl) rfl ?_
                  refine go_goto (tgt := 23) C dL_law_2237 rfl ?_
                  refine go_wide (kc' := kc + 5) (ks' := ks + 30) (by omega) (by omega) ?_
                  refine go_weak (ls' := [some (.ref b), some (rf G 0), some (rf G 64), some (rf G 79), some (.int (iI (v4 + 5))), none, none, none, none]) ⟨rfl, ⟨rfl, ⟨rfl, ⟨rfl, ⟨rfl, trivial⟩⟩⟩⟩⟩ ?_
                  exact ih (v4 + 5) q242.2 (kc + 5) (ks + 30) (by omega) (by omega) hB243 h
                · replace h := ite_f hc249 h
                  refine go_iconst C dL_law_1426 ?_
                  exact absurd (Option.some.inj h) (by decide)
            · replace h := ite_f hc246 h
              refine go_iconst C dL_law_1409 ?_
              exact absurd (Option.some.inj h) (by decide)
      replace h := ite_f hs19 h
      by_cases hs20 : band (zs v4) 63 = 20
      · replace h := ite_t hs20 h
        refine go_tabIn (j := 20) (tgt := 1431) C dL_law_39 hs20 (by decide) (by decide) rfl rfl ?_
        refine go_aload_n C dL_law_1431 rfl rfl ?_
        refine go_aload_n C dL_law_1432 rfl rfl ?_
        refine go_iload C dL_law_1433 rfl ?_
        refine go_iconst C dL_law_1435 ?_
        refine go_iadd C dL_law_1436 ?_
        obtain ⟨hc250, h⟩ := chk_some h
        refine go_sld hscr C dL_law_1437 hc250 ?_
        refine go_aload_n C dL_law_1438 rfl rfl ?_
        obtain ⟨q251, h251, h⟩ := ob_some h
        refine go_callSX_i C dL_law_1439 (ok_L_tableSize C.hl hB h251) ms_L_186 rfl rfl (Nat.le_of_ble_eq_true rfl) ⟨(Nat.le_of_ble_eq_true rfl), (Nat.le_of_ble_eq_true rfl)⟩ ⟨by omega, by omega⟩ (fun hB251 => ?_)
        refine go_istore (ls2 := [some (.ref b), some (rf G 0), some (rf G 64), some (rf G 79), some (.int (iI v4)), some (.int (iI q251.1)), none, none, none]) C dL_law_1442 (Nat.le_of_ble_eq_true rfl) rfl ?_
        refine go_aload_n C dL_law_1444 rfl rfl ?_
        refine go_aload_n C dL_law_1445 rfl rfl ?_
        refine go_iload C dL_law_1446 rfl ?_
        refine go_iconst C dL_law_1448 ?_
        refine go_iadd C dL_law_1449 ?_
        refine go_sld hscr C dL_law_1450 hc250 ?_
        obtain ⟨q252, h252, h⟩ := ob_some h
        refine go_callV_i C dL_law_1451 (ok_X10_tableSize C.hl hB251 h252) mv_L_188 sh_64 rfl rfl (Nat.le_of_ble_eq_true rfl) ⟨(Nat.le_of_ble_eq_true rfl), (Nat.le_of_ble_eq_true rfl)⟩ ⟨by omega, by omega⟩ (fun hB252 => ?_)
        refine go_istore (ls2 := [some (.ref b), some (rf G 0), some (rf G 64), some (rf G 79), some (.int (iI v4)), some (.int (iI q251.1)), some (.int (iI q252.1)), none, none]) C dL_law_1454 (Nat.le_of_ble_eq_true rfl) rfl ?_
        refine go_aload_n C dL_law_1456 rfl rfl ?_
        obtain ⟨q253, h253, h⟩ := ob_some h
        refine go_callV_i C dL_law_1457 (ok_X10_thrown C.hl hB252 h253) mv_L_118 sh_64 rfl rfl (Nat.le_of_ble_eq_true rfl) ⟨(Nat.le_of_ble_eq_true rfl), (Nat.le_of_ble_eq_true rfl)⟩ ⟨by omega, by omega⟩ (fun hB253 => ?_)
        refine go_iload C dL_law_1460 rfl ?_
        obtain ⟨hc254, h⟩ := chk_some h
        obtain ⟨hc255, h⟩ := chk_some h
        refine go_icmp_eq (tgt := 1467) C dL_law_1462 rfl hc254 hc255 (fun hc256 => ?_) (fun hc256 => ?_)
        · replace h := ite_t hc256 h
          refine go_iload C dL_law_1467 rfl ?_
          refine go_if_ne (tgt := 1484) C dL_law_1469 rfl hc255 (fun hc257 => ?_) (fun hc257 => ?_)
          · replace h := ite_f hc257 h
            refine go_goto (tgt := 2234) C dL_law_1484 rfl ?_
            refine go_iinc (ls2 := [some (.ref b), some (rf G 0), some (rf G 64), some (rf G 79), some (.int (iI (v4 + 5))), some (.int (iI q251.1)), some (.int (iI q252.1)), none, none]) C dL_law_2234 rfl (Nat.le_of_ble_eq_true rfl) rfl ?_
            refine go_goto (tgt := 23) C dL_law_2237 rfl ?_
            refine go_wide (kc' := kc + 5) (ks' := ks + 30) (by omega) (by omega) ?_
            refine go_weak (ls' := [some (.ref b), some (rf G 0), some (rf G 64), some (rf G 79), some (.int (iI (v4 + 5))), none, none, none, none]) ⟨rfl, ⟨rfl, ⟨rfl, ⟨rfl, ⟨rfl, trivial⟩⟩⟩⟩⟩ ?_
            exact ih (v4 + 5) q252.2 (kc + 5) (ks + 30) (by omega) (by omega) hB253 h
          · replace h := ite_t hc257 h
            refine go_aload_n C dL_law_1472 rfl rfl ?_
            refine go_iconst C dL_law_1473 ?_
            refine go_lald (k2 := 1079) C dL_law_1474 sh_79 (by decide) ⟨by decide, by decide⟩ rfl ?_
            refine go_iload C dL_law_1475 rfl ?_
            obtain ⟨hc258, h⟩ := chk_some h
            refine go_i2l C dL_law_1477 hc258 ?_
            refine go_lcmp C dL_law_1478 ?_
            refine go_if_eq (tgt := 1484) C dL_law_1479 rfl (iI_inR _) (fun hc259 => ?_) (fun hc259 => ?_)
            · replace h := ite_t hc259 h
              refine go_goto (tgt := 2234) C dL_law_1484 rfl ?_
              refine go_iinc (ls2 := [some (.ref b), some (rf G 0), some (rf G 64), some (rf G 79), some (.int (iI (v4 + 5))), some (.int (iI q251.1)), some (.int (iI q252.1)), none, none]) C dL_law_2234 rfl (Nat.le_of_ble_eq_true rfl) rfl ?_
              refine go_goto (tgt := 23) C dL_law_2237 rfl ?_
              refine go_wide (kc' := kc + 5) (ks' := ks + 30) (by omega) (by omega) ?_
              refine go_weak (ls' := [some (.ref b), some (rf G 0), some (rf G 64), some (rf G 79), some (.int (iI (v4 + 5))), none, none, none, none]) ⟨rfl, ⟨rfl, ⟨rfl, ⟨rfl, ⟨rfl, trivial⟩⟩⟩⟩⟩ ?_
              exact ih (v4 + 5) q252.2 (kc + 5) (ks + 30) (by omega) (by omega) hB253 h
            · replace h := ite_f hc259 h
              refine go_iconst C dL_law_1482 ?_
              exact absurd (Option.some.inj h) (by decide)
        · replace h := ite_f hc256 h
          refine go_iconst C dL_law_1465 ?_
          exact absurd (Option.some.inj h) (by decide)
      replace h := ite_f hs20 h
      by_cases hs21 : band (zs v4) 63 = 21
      · replace h := ite_t hs21 h
        refine go_tabIn (j := 21) (tgt := 1487) C dL_law_39 hs21 (by decide) (by decide) rfl rfl ?_
        refine go_aload_n C dL_law_1487 rfl rfl ?_
        obtain ⟨q260, h260, h⟩ := ob_some h
        refine go_callV_i C dL_law_1488 (ok_X9_compactness C.hl hB h260) mv_L_189 sh_0 rfl rfl (Nat.le_of_ble_eq_true rfl) ⟨(Nat.le_of_ble_eq_true rfl), (Nat.le_of_ble_eq_true rfl)⟩ ⟨by omega, by omega⟩ (fun hB260 => ?_)
        refine go_aload_n C dL_law_1491 rfl rfl ?_
        obtain ⟨q261, h261, h⟩ := ob_some h
        refine go_callV_i C dL_law_1492 (ok_X10_compactness C.hl hB260 h261) mv_L_192 sh_64 rfl rfl (Nat.le_of_ble_eq_true rfl) ⟨(Nat.le_of_ble_eq_true rfl), (Nat.le_of_ble_eq_true rfl)⟩ ⟨by omega, by omega⟩ (fun hB261 => ?_)
        obtain ⟨hc262, h⟩ := chk_some h
        obtain ⟨hc263, h⟩ := chk_some h
        refine go_icmp_eq (tgt := 2234) C dL_law_1495 rfl hc262 hc263 (fun hc264 => ?_) (fun hc264 => ?_)
        · replace h := ite_t hc264 h
          refine go_iinc (ls2 := [some (.ref b), some (rf G 0), some (rf G 64), some (rf G 79), some (.int (iI (v4 + 5))), none, none, none, none]) C dL_law_2234 rfl (Nat.le_of_ble_eq_true rfl) rfl ?_
          refine go_goto (tgt := 23) C dL_law_2237 rfl ?_
          refine go_wide (kc' := kc + 5) (ks' := ks + 30) (by omega) (by omega) ?_
          exact ih (v4 + 5) q261.2 (kc + 5) (ks + 30) (by omega) (by omega) hB261 h
        · replace h := ite_f hc264 h
          refine go_iconst C dL_law_1498 ?_
          exact absurd (Option.some.inj h) (by decide)
      replace h := ite_f hs21 h
      by_cases hs22 : band (zs v4) 63 = 22
      · replace h := ite_t hs22 h
        refine go_tabIn (j := 22) (tgt := 1500) C dL_law_39 hs22 (by decide) (by decide) rfl rfl ?_
        refine go_aload_n C dL_law_1500 rfl rfl ?_
        refine go_aload_n C dL_law_1501 rfl rfl ?_
        refine go_iload C dL_law_1502 rfl ?_
        refine go_iconst C dL_law_1504 ?_
        refine go_iadd C dL_law_1505 ?_
        obtain ⟨hc265, h⟩ := chk_some h
        refine go_sld hscr C dL_law_1506 hc265 ?_
        refine go_aload_n C dL_law_1507 rfl rfl ?_
        obtain ⟨q266, h266, h⟩ := ob_some h
        refine go_callSX_i C dL_law_1508 (ok_L_bestSize C.hl hB h266) ms_L_193 rfl rfl (Nat.le_of_ble_eq_true rfl) ⟨(Nat.le_of_ble_eq_true rfl), (Nat.le_of_ble_eq_true rfl)⟩ ⟨by omega, by omega⟩ (fun hB266 => ?_)
        refine go_istore (ls2 := [some (.ref b), some (rf G 0), some (rf G 64), some (rf G 79), some (.int (iI v4)), some (.int (iI q266.1)), none, none, none]) C dL_law_1511 (Nat.le_of_ble_eq_true rfl) rfl ?_
        refine go_aload_n C dL_law_1513 rfl rfl ?_
        refine go_aload_n C dL_law_1514 rfl rfl ?_
        refine go_iload C dL_law_1515 rfl ?_
        refine go_iconst C dL_law_1517 ?_
        refine go_iadd C dL_law_1518 ?_
        refine go_sld hscr C dL_law_1519 hc265 ?_
        obtain ⟨q267, h267, h⟩ := ob_some h
        refine go_callV_i C dL_law_1520 (ok_X10_bestSize C.hl hB266 h267) mv_L_195 sh_64 rfl rfl (Nat.le_of_ble_eq_true rfl) ⟨(Nat.le_of_ble_eq_true rfl), (Nat.le_of_ble_eq_true rfl)⟩ ⟨by omega, by omega⟩ (fun hB267 => ?_)
        refine go_istore (ls2 := [some (.ref b), some (rf G 0), some (rf G 64), some (rf G 79), some (.int (iI v4)), some (.int (iI q266.1)), some (.int (iI q267.1)), none, none]) C dL_law_1523 (Nat.le_of_ble_eq_true rfl) rfl ?_
        refine go_aload_n C dL_law_1525 rfl rfl ?_
        obtain ⟨q268, h268, h⟩ := ob_some h
        refine go_callV_i C dL_law_1526 (ok_X10_thrown C.hl hB267 h268) mv_L_118 sh_64 rfl rfl (Nat.le_of_ble_eq_true rfl) ⟨(Nat.le_of_ble_eq_true rfl), (Nat.le_of_ble_eq_true rfl)⟩ ⟨by omega, by omega⟩ (fun hB268 => ?_)
        refine go_iload C dL_law_1529 rfl ?_
        obtain ⟨hc269, h⟩ := chk_some h
        obtain ⟨hc270, h⟩ := chk_some h
        refine go_icmp_eq (tgt := 1536) C dL_law_1531 rfl hc269 hc270 (fun hc271 => ?_) (fun hc271 => ?_)
        · replace h := ite_t hc271 h
          refine go_iload C dL_law_1536 rfl ?_
          refine go_if_ne (tgt := 1553) C dL_law_1538 rfl hc270 (fun hc272 => ?_) (fun hc272 => ?_)
          · replace h := ite_f hc272 h
            refine go_goto (tgt := 2234) C dL_law_1553 rfl ?_
            refine go_iinc (ls2 := [some (.ref b), some (rf G 0), some (rf G 64), some (rf G 79), some (.int (iI (v4 + 5))), some (.int (iI q266.1)), some (.int (iI q267.1)), none, none]) C dL_law_2234 rfl (Nat.le_of_ble_eq_true rfl) rfl ?_
            refine go_goto (tgt := 23) C dL_law_2237 rfl ?_
            refine go_wide (kc' := kc + 5) (ks' := ks + 30) (by omega) (by omega) ?_
            refine go_weak (ls' := [some (.ref b), some (rf G 0), some (rf G 64), some (rf G 79), some (.int (iI (v4 + 5))), none, none, none, none]) ⟨rfl, ⟨rfl, ⟨rfl, ⟨rfl, ⟨rfl, trivial⟩⟩⟩⟩⟩ ?_
            exact ih (v4 + 5) q267.2 (kc + 5) (ks + 30) (by omega) (by omega) hB268 h
          · replace h := ite_t hc272 h
            refine go_aload_n C dL_law_1541 rfl rfl ?_
            refine go_iconst C dL_law_1542 ?_
            refine go_lald (k2 := 1079) C dL_law_1543 sh_79 (by decide) ⟨by decide, by decide⟩ rfl ?_
            refine go_iload C dL_law_1544 rfl ?_
            obtain ⟨hc273, h⟩ := chk_some h
            refine go_i2l C dL_law_1546 hc273 ?_
            refine go_lcmp C dL_law_1547 ?_
            refine go_if_eq (tgt := 1553) C dL_law_1548 rfl (iI_inR _) (fun hc274 => ?_) (fun hc274 => ?_)
            · replace h := ite_t hc274 h
              refine go_goto (tgt := 2234) C dL_law_1553 rfl ?_
              refine go_iinc (ls2 := [some (.ref b), some (rf G 0), some (rf G 64), some (rf G 79), some (.int (iI (v4 + 5))), some (.int (iI q266.1)), some (.int (iI q267.1)), none, none]) C dL_law_2234 rfl (Nat.le_of_ble_eq_true rfl) rfl ?_
              refine go_goto (tgt := 23) C dL_law_2237 rfl ?_
              refine go_wide (kc' := kc + 5) (ks' := ks + 30) (by omega) (by omega) ?_
              refine go_weak (ls' := [some (.ref b), some (rf G 0), some (rf G 64), some (rf G 79), some (.int (iI (v4 + 5))), none, none, none, none]) ⟨rfl, ⟨rfl, ⟨rfl, ⟨rfl, ⟨rfl, trivial⟩⟩⟩⟩⟩ ?_
              exact ih (v4 + 5) q267.2 (kc + 5) (ks + 30) (by omega) (by omega) hB268 h
            · replace h := ite_f hc274 h
              refine go_iconst C dL_law_1551 ?_
              exact absurd (Option.some.inj h) (by decide)
        · replace h := ite_f hc271 h
          refine go_iconst C dL_law_1534 ?_
          exact absurd (Option.some.inj h) (by decide)
      replace h := ite_f hs22 h
      by_cases hs23 : band (zs v4) 63 = 23
      · replace h := ite_t hs23 h
        refine go_tabIn (j := 23) (tgt := 1556) C dL_law_39 hs23 (by decide) (by decide) rfl rfl ?_
        refine go_aload_n C dL_law_1556 rfl rfl ?_
        refine go_aload_n C dL_law_1557 rfl rfl ?_
        refine go_iload C dL_law_1558 rfl ?_
        refine go_iconst C dL_law_1560 ?_
        refine go_iadd C dL_law_1561 ?_
        obtain ⟨hc275, h⟩ := chk_some h
        refine go_sld hscr C dL_law_1562 hc275 ?_
        refine go_aload_n C dL_law_1563 rfl rfl ?_
        refine go_iload C dL_law_1564 rfl ?_
        refine go_iconst C dL_law_1566 ?_
        refine go_iadd C dL_law_1567 ?_
        obtain ⟨hc276, h⟩ := chk_some h
        refine go_sld hscr C dL_law_1568 hc276 ?_
        refine go_aload_n C dL_law_1569 rfl rfl ?_
        obtain ⟨q277, h277, h⟩ := ob_some h
        refine go_callSX_i C dL_law_1570 (ok_L_check C.hl hB h277) ms_L_196 rfl rfl (Nat.le_of_ble_eq_true rfl) ⟨(Nat.le_of_ble_eq_true rfl), (Nat.le_of_ble_eq_true rfl)⟩ ⟨by omega, by omega⟩ (fun hB277 => ?_)
        refine go_istore (ls2 := [some (.ref b), some (rf G 0), some (rf G 64), some (rf G 79), some (.int (iI v4)), some (.int (iI q277.1)), none, none, none]) C dL_law_1573 (Nat.le_of_ble_eq_true rfl) rfl ?_
        refine go_aload_n C dL_law_1575 rfl rfl ?_
        refine go_aload_n C dL_law_1576 rfl rfl ?_
        refine go_iload C dL_law_1577 rfl ?_
        refine go_iconst C dL_law_1579 ?_
        refine go_iadd C dL_law_1580 ?_
        refine go_sld hscr C dL_law_1581 hc275 ?_
        refine go_aload_n C dL_law_1582 rfl rfl ?_
        refine go_iload C dL_law_1583 rfl ?_
        refine go_iconst C dL_law_1585 ?_
        refine go_iadd C dL_law_1586 ?_
        refine go_sld hscr C dL_law_1587 hc276 ?_
        obtain ⟨q278, h278, h⟩ := ob_some h
        refine go_callV_i C dL_law_1588 (ok_X10_check C.hl hB277 h278) mv_L_198 sh_64 rfl rfl (Nat.le_of_ble_eq_true rfl) ⟨(Nat.le_of_ble_eq_true rfl), (Nat.le_of_ble_eq_true rfl)⟩ ⟨by omega, by omega⟩ (fun hB278 => ?_)
        refine go_istore (ls2 := [some (.ref b), some (rf G 0), some (rf G 64), some (rf G 79), some (.int (iI v4)), some (.int (iI q277.1)), some (.int (iI q278.1)), none, none]) C dL_law_1591 (Nat.le_of_ble_eq_true rfl) rfl ?_
        refine go_aload_n C dL_law_1593 rfl rfl ?_
        obtain ⟨q279, h279, h⟩ := ob_some h
        refine go_callV_i C dL_law_1594 (ok_X10_thrown C.hl hB278 h279) mv_L_118 sh_64 rfl rfl (Nat.le_of_ble_eq_true rfl) ⟨(Nat.le_of_ble_eq_true rfl), (Nat.le_of_ble_eq_true rfl)⟩ ⟨by omega, by omega⟩ (fun hB279 => ?_)
        refine go_iload C dL_law_1597 rfl ?_
        obtain ⟨hc280, h⟩ := chk_some h
        obtain ⟨hc281, h⟩ := chk_some h
        refine go_icmp_eq (tgt := 1604) C dL_law_1599 rfl hc280 hc281 (fun hc282 => ?_) (fun hc282 => ?_)
        · replace h := ite_t hc282 h
          refine go_iload C dL_law_1604 rfl ?_
          refine go_if_ne (tgt := 1621) C dL_law_1606 rfl hc281 (fun hc283 => ?_) (fun hc283 => ?_)
          · replace h := ite_f hc283 h
            refine go_goto (tgt := 2234) C dL_law_1621 rfl ?_
            refine go_iinc (ls2 := [some (.ref b), some (rf G 0), some (rf G 64), some (rf G 79), some (.int (iI (v4 + 5))), some (.int (iI q277.1)), some (.int (iI q278.1)), none, none]) C dL_law_2234 rfl (Nat.le_of_ble_eq_true rfl) rfl ?_
            refine go_goto (tgt := 23) C dL_law_2237 rfl ?_
            refine go_wide (kc' := kc + 5) (ks' := ks + 30) (by omega) (by omega) ?_
            refine go_weak (ls' := [some (.ref b), some (rf G 0), some (rf G 64), some (rf G 79), some (.int (iI (v4 + 5))), none, none, none, none]) ⟨rfl, ⟨rfl, ⟨rfl, ⟨rfl, ⟨rfl, trivial⟩⟩⟩⟩⟩ ?_
            exact ih (v4 + 5) q278.2 (kc + 5) (ks + 30) (by omega) (by omega) hB279 h
          · replace h := ite_t hc283 h
            refine go_aload_n C dL_law_1609 rfl rfl ?_
            refine go_iconst C dL_law_1610 ?_
            refine go_lald (k2 := 1079) C dL_law_1611 sh_79 (by decide) ⟨by decide, by decide⟩ rfl ?_
            refine go_iload C dL_law_1612 rfl ?_
            obtain ⟨hc284, h⟩ := chk_some h
            refine go_i2l C dL_law_1614 hc284 ?_
            refine go_lcmp C dL_law_1615 ?_
            refine go_if_eq (tgt := 1621) C dL_law_1616 rfl (iI_inR _) (fun hc285 => ?_) (fun hc285 => ?_)
            · replace h := ite_t hc285 h
              refine go_goto (tgt := 2234) C dL_law_1621 rfl ?_
              refine go_iinc (ls2 := [some (.ref b), some (rf G 0), some (rf G 64), some (rf G 79), some (.int (iI (v4 + 5))), some (.int (iI q277.1)), some (.int (iI q278.1)), none, none]) C dL_law_2234 rfl (Nat.le_of_ble_eq_true rfl) rfl ?_
              refine go_goto (tgt := 23) C dL_law_2237 rfl ?_
              refine go_wide (kc' := kc + 5) (ks' := ks + 30) (by omega) (by omega) ?_
              refine go_weak (ls' := [some (.ref b), some (rf G 0), some (rf G 64), some (rf G 79), some (.int (iI (v4 + 5))), none, none, none, none]) ⟨rfl, ⟨rfl, ⟨rfl, ⟨rfl, ⟨rfl, trivial⟩⟩⟩⟩⟩ ?_
              exact ih (v4 + 5) q278.2 (kc + 5) (ks + 30) (by omega) (by omega) hB279 h
            · replace h := ite_f hc285 h
              refine go_iconst C dL_law_1619 ?_
              exact absurd (Option.some.inj h) (by decide)
        · replace h := ite_f hc282 h
          refine go_iconst C dL_law_1602 ?_
          exact absurd (Option.some.inj h) (by decide)
      replace h := ite_f hs23 h
      by_cases hs24 : band (zs v4) 63 = 24
      · replace h := ite_t hs24 h
        refine go_tabIn (j := 24) (tgt := 1624) C dL_law_39 hs24 (by decide) (by decide) rfl rfl ?_
        refine go_aload_n C dL_law_1624 rfl rfl ?_
        refine go_aload_n C dL_law_1625 rfl rfl ?_
        refine go_iload C dL_law_1626 rfl ?_
        refine go_iconst C dL_law_1628 ?_
        refine go_iadd C dL_law_1629 ?_
        obtain ⟨hc286, h⟩ := chk_some h
        refine go_sld hscr C dL_law_1630 hc286 ?_
        refine go_aload_n C dL_law_1631 rfl rfl ?_
        obtain ⟨q287, h287, h⟩ := ob_some h
        refine go_callSX_i C dL_law_1632 (ok_L_checked C.hl hB h287) ms_L_199 rfl rfl (Nat.le_of_ble_eq_true rfl) ⟨(Nat.le_of_ble_eq_true rfl), (Nat.le_of_ble_eq_true rfl)⟩ ⟨by omega, by omega⟩ (fun hB287 => ?_)
        refine go_istore (ls2 := [some (.ref b), some (rf G 0), some (rf G 64), some (rf G 79), some (.int (iI v4)), some (.int (iI q287.1)), none, none, none]) C dL_law_1635 (Nat.le_of_ble_eq_true rfl) rfl ?_
        refine go_aload_n C dL_law_1637 rfl rfl ?_
        refine go_aload_n C dL_law_1638 rfl rfl ?_
        refine go_iload C dL_law_1639 rfl ?_
        refine go_iconst C dL_law_1641 ?_
        refine go_iadd C dL_law_1642 ?_
        refine go_sld hscr C dL_law_1643 hc286 ?_
        obtain ⟨q288, h288, h⟩ := ob_some h
        refine go_callV_i C dL_law_1644 (ok_X10_checked C.hl hB287 h288) mv_L_201 sh_64 rfl rfl (Nat.le_of_ble_eq_true rfl) ⟨(Nat.le_of_ble_eq_true rfl), (Nat.le_of_ble_eq_true rfl)⟩ ⟨by omega, by omega⟩ (fun hB288 => ?_)
        refine go_istore (ls2 := [some (.ref b), some (rf G 0), some (rf G 64), some (rf G 79), some (.int (iI v4)), some (.int (iI q287.1)), some (.int (iI q288.1)), none, none]) C dL_law_1647 (Nat.le_of_ble_eq_true rfl) rfl ?_
        refine go_aload_n C dL_law_1649 rfl rfl ?_
        obtain ⟨q289, h289, h⟩ := ob_some h
        refine go_callV_i C dL_law_1650 (ok_X10_thrown C.hl hB288 h289) mv_L_118 sh_64 rfl rfl (Nat.le_of_ble_eq_true rfl) ⟨(Nat.le_of_ble_eq_true rfl), (Nat.le_of_ble_eq_true rfl)⟩ ⟨by omega, by omega⟩ (fun hB289 => ?_)
        refine go_iload C dL_law_1653 rfl ?_
        obtain ⟨hc290, h⟩ := chk_some h
        obtain ⟨hc291, h⟩ := chk_some h
        refine go_icmp_eq (tgt := 1660) C dL_law_1655 rfl hc290 hc291 (fun hc292 => ?_) (fun hc292 => ?_)
        · replace h := ite_t hc292 h
          refine go_iload C dL_law_1660 rfl ?_
          refine go_if_ne (tgt := 1677) C dL_law_1662 rfl hc291 (fun hc293 => ?_) (fun hc293 => ?_)
          · replace h := ite_f hc293 h
            refine go_goto (tgt := 2234) C dL_law_1677 rfl ?_
            refine go_iinc (ls2 := [some (.ref b), some (rf G 0), some (rf G 64), some (rf G 79), some (.int (iI (v4 + 5))), some (.int (iI q287.1)), some (.int (iI q288.1)), none, none]) C dL_law_2234 rfl (Nat.le_of_ble_eq_true rfl) rfl ?_
            refine go_goto (tgt := 23) C dL_law_2237 rfl ?_
            refine go_wide (kc' := kc + 5) (ks' := ks + 30) (by omega) (by omega) ?_
            refine go_weak (ls' := [some (.ref b), some (rf G 0), some (rf G 64), some (rf G 79), some (.int (iI (v4 + 5))), none, none, none, none]) ⟨rfl, ⟨rfl, ⟨rfl, ⟨rfl, ⟨rfl, trivial⟩⟩⟩⟩⟩ ?_
            exact ih (v4 + 5) q288.2 (kc + 5) (ks + 30) (by omega) (by omega) hB289 h
          · replace h := ite_t hc293 h
            refine go_aload_n C dL_law_1665 rfl rfl ?_
            refine go_iconst C dL_law_1666 ?_
            refine go_lald (k2 := 1079) C dL_law_1667 sh_79 (by decide) ⟨by decide, by decide⟩ rfl ?_
            refine go_iload C dL_law_1668 rfl ?_
            obtain ⟨hc294, h⟩ := chk_some h
            refine go_i2l C dL_law_1670 hc294 ?_
            refine go_lcmp C dL_law_1671 ?_
            refine go_if_eq (tgt := 1677) C dL_law_1672 rfl (iI_inR _) (fun hc295 => ?_) (fun hc295 => ?_)
            · replace h := ite_t hc295 h
              refine go_goto (tgt := 2234) C dL_law_1677 rfl ?_
              refine go_iinc (ls2 := [some (.ref b), some (rf G 0), some (rf G 64), some (rf G 79), some (.int (iI (v4 + 5))), some (.int (iI q287.1)), some (.int (iI q288.1)), none, none]) C dL_law_2234 rfl (Nat.le_of_ble_eq_true rfl) rfl ?_
              refine go_goto (tgt := 23) C dL_law_2237 rfl ?_
              refine go_wide (kc' := kc + 5) (ks' := ks + 30) (by omega) (by omega) ?_
              refine go_weak (ls' := [some (.ref b), some (rf G 0), some (rf G 64), some (rf G 79), some (.int (iI (v4 + 5))), none, none, none, none]) ⟨rfl, ⟨rfl, ⟨rfl, ⟨rfl, ⟨rfl, trivial⟩⟩⟩⟩⟩ ?_
              exact ih (v4 + 5) q288.2 (kc + 5) (ks + 30) (by omega) (by omega) hB289 h
            · replace h := ite_f hc295 h
              refine go_iconst C dL_law_1675 ?_
              exact absurd (Option.some.inj h) (by decide)
        · replace h := ite_f hc292 h
          refine go_iconst C dL_law_1658 ?_
          exact absurd (Option.some.inj h) (by decide)
      replace h := ite_f hs24 h
      by_cases hs25 : band (zs v4) 63 = 25
      · replace h := ite_t hs25 h
        refine go_tabIn (j := 25) (tgt := 1680) C dL_law_39 hs25 (by decide) (by decide) rfl rfl ?_
        refine go_aload_n C dL_law_1680 rfl rfl ?_
        refine go_aload_n C dL_law_1681 rfl rfl ?_
        refine go_iload C dL_law_1682 rfl ?_
        refine go_iconst C dL_law_1684 ?_
        refine go_iadd C dL_law_1685 ?_
        obtain ⟨hc296, h⟩ := chk_some h
        refine go_sld hscr C dL_law_1686 hc296 ?_
        refine go_aload_n C dL_law_1687 rfl rfl ?_
        refine go_iload C dL_law_1688 rfl ?_
        refine go_iconst C dL_law_1690 ?_
        refine go_iadd C dL_law_1691 ?_
        obtain ⟨hc297, h⟩ := chk_some h
        refine go_sld hscr C dL_law_1692 hc297 ?_
        refine go_aload_n C dL_law_1693 rfl rfl ?_
        obtain ⟨q298, h298, h⟩ := ob_some h
        refine go_callSX_i C dL_law_1694 (ok_L_send C.hl hB h298) ms_L_202 rfl rfl (Nat.le_of_ble_eq_true rfl) ⟨(Nat.le_of_ble_eq_true rfl), (Nat.le_of_ble_eq_true rfl)⟩ ⟨by omega, by omega⟩ (fun hB298 => ?_)
        refine go_istore (ls2 := [some (.ref b), some (rf G 0), some (rf G 64), some (rf G 79), some (.int (iI v4)), some (.int (iI q298.1)), none, none, none]) C dL_law_1697 (Nat.le_of_ble_eq_true rfl) rfl ?_
        refine go_aload_n C dL_law_1699 rfl rfl ?_
        refine go_aload_n C dL_law_1700 rfl rfl ?_
        refine go_iload C dL_law_1701 rfl ?_
        refine go_iconst C dL_law_1703 ?_
        refine go_iadd C dL_law_1704 ?_
        refine go_sld hscr C dL_law_1705 hc296 ?_
        refine go_aload_n C dL_law_1706 rfl rfl ?_
        refine go_iload C dL_law_1707 rfl ?_
        refine go_iconst C dL_law_1709 ?_
        refine go_iadd C dL_law_1710 ?_
        refine go_sld hscr C dL_law_1711 hc297 ?_
        obtain ⟨q299, h299, h⟩ := ob_some h
        refine go_callV_i C dL_law_1712 (ok_X10_send C.hl hB298 h299) mv_L_204 sh_64 rfl rfl (Nat.le_of_ble_eq_true rfl) ⟨(Nat.le_of_ble_eq_true rfl), (Nat.le_of_ble_eq_true rfl)⟩ ⟨by omega, by omega⟩ (fun hB299 => ?_)
        refine go_istore (ls2 := [some (.ref b), some (rf G 0), some (rf G 64), some (rf G 79), some (.int (iI v4)), some (.int (iI q298.1)), some (.int (iI q299.1)), none, none]) C dL_law_1715 (Nat.le_of_ble_eq_true rfl) rfl ?_
        refine go_aload_n C dL_law_1717 rfl rfl ?_
        obtain ⟨q300, h300, h⟩ := ob_some h
        refine go_callV_i C dL_law_1718 (ok_X10_thrown C.hl hB299 h300) mv_L_118 sh_64 rfl rfl (Nat.le_of_ble_eq_true rfl) ⟨(Nat.le_of_ble_eq_true rfl), (Nat.le_of_ble_eq_true rfl)⟩ ⟨by omega, by omega⟩ (fun hB300 => ?_)
        refine go_iload C dL_law_1721 rfl ?_
        obtain ⟨hc301, h⟩ := chk_some h
        obtain ⟨hc302, h⟩ := chk_some h
        refine go_icmp_eq (tgt := 1728) C dL_law_1723 rfl hc301 hc302 (fun hc303 => ?_) (fun hc303 => ?_)
        · replace h := ite_t hc303 h
          refine go_iload C dL_law_1728 rfl ?_
          refine go_if_ne (tgt := 1745) C dL_law_1730 rfl hc302 (fun hc304 => ?_) (fun hc304 => ?_)
          · replace h := ite_f hc304 h
            refine go_goto (tgt := 2234) C dL_law_1745 rfl ?_
            refine go_iinc (ls2 := [some (.ref b), some (rf G 0), some (rf G 64), some (rf G 79), some (.int (iI (v4 + 5))), some (.int (iI q298.1)), some (.int (iI q299.1)), none, none]) C dL_law_2234 rfl (Nat.le_of_ble_eq_true rfl) rfl ?_
            refine go_goto (tgt := 23) C dL_law_2237 rfl ?_
            refine go_wide (kc' := kc + 5) (ks' := ks + 30) (by omega) (by omega) ?_
            refine go_weak (ls' := [some (.ref b), some (rf G 0), some (rf G 64), some (rf G 79), some (.int (iI (v4 + 5))), none, none, none, none]) ⟨rfl, ⟨rfl, ⟨rfl, ⟨rfl, ⟨rfl, trivial⟩⟩⟩⟩⟩ ?_
            exact ih (v4 + 5) q299.2 (kc + 5) (ks + 30) (by omega) (by omega) hB300 h
          · replace h := ite_t hc304 h
            refine go_aload_n C dL_law_1733 rfl rfl ?_
            refine go_iconst C dL_law_1734 ?_
            refine go_lald (k2 := 1079) C dL_law_1735 sh_79 (by decide) ⟨by decide, by decide⟩ rfl ?_
            refine go_iload C dL_law_1736 rfl ?_
            obtain ⟨hc305, h⟩ := chk_some h
            refine go_i2l C dL_law_1738 hc305 ?_
            refine go_lcmp C dL_law_1739 ?_
            refine go_if_eq (tgt := 1745) C dL_law_1740 rfl (iI_inR _) (fun hc306 => ?_) (fun hc306 => ?_)
            · replace h := ite_t hc306 h
              refine go_goto (tgt := 2234) C dL_law_1745 rfl ?_
              refine go_iinc (ls2 := [some (.ref b), some (rf G 0), some (rf G 64), some (rf G 79), some (.int (iI (v4 + 5))), some (.int (iI q298.1)), some (.int (iI q299.1)), none, none]) C dL_law_2234 rfl (Nat.le_of_ble_eq_true rfl) rfl ?_
              refine go_goto (tgt := 23) C dL_law_2237 rfl ?_
              refine go_wide (kc' := kc + 5) (ks' := ks + 30) (by omega) (by omega) ?_
              refine go_weak (ls' := [some (.ref b), some (rf G 0), some (rf G 64), some (rf G 79), some (.int (iI (v4 + 5))), none, none, none, none]) ⟨rfl, ⟨rfl, ⟨rfl, ⟨rfl, ⟨rfl, trivial⟩⟩⟩⟩⟩ ?_
              exact ih (v4 + 5) q299.2 (kc + 5) (ks + 30) (by omega) (by omega) hB300 h
            · replace h := ite_f hc306 h
              refine go_iconst C dL_law_1743 ?_
              exact absurd (Option.some.inj h) (by decide)
        · replace h := ite_f hc303 h
          refine go_iconst C dL_law_1726 ?_
          exact absurd (Option.some.inj h) (by decide)
      replace h := ite_f hs25 h
      by_cases hs26 : band (zs v4) 63 = 26
      · replace h := ite_t hs26 h
        refine go_tabIn (j := 26) (tgt := 1748) C dL_law_39 hs26 (by decide) (by decide) rfl rfl ?_
        refine go_aload_n C dL_law_1748 rfl rfl ?_
        refine go_aload_n C dL_law_1749 rfl rfl ?_
        refine go_iload C dL_law_1750 rfl ?_
        refine go_iconst C dL_law_1752 ?_
        refine go_iadd C dL_law_1753 ?_
        obtain ⟨hc307, h⟩ := chk_some h
        refine go_sld hscr C dL_law_1754 hc307 ?_
        refine go_aload_n C dL_law_1755 rfl rfl ?_
        refine go_iload C dL_law_1756 rfl ?_
        refine go_iconst C dL_law_1758 ?_
        refine go_iadd C dL_law_1759 ?_
        obtain ⟨hc308, h⟩ := chk_some h
        refine go_sld hscr C dL_law_1760 hc308 ?_
        refine go_aload_n C dL_law_1761 rfl rfl ?_
        refine go_iload C dL_law_1762 rfl ?_
        refine go_iconst C dL_law_1764 ?_
        refine go_iadd C dL_law_1765 ?_
        obtain ⟨hc309, h⟩ := chk_some h
        refine go_sld hscr C dL_law_1766 hc309 ?_
        refine go_aload_n C dL_law_1767 rfl rfl ?_
        obtain ⟨q310, h310, h⟩ := ob_some h
        refine go_callSX_i C dL_law_1768 (ok_L_wayNode C.hl hB h310) ms_L_205 rfl rfl (Nat.le_of_ble_eq_true rfl) ⟨(Nat.le_of_ble_eq_true rfl), (Nat.le_of_ble_eq_true rfl)⟩ ⟨by omega, by omega⟩ (fun hB310 => ?_)
        refine go_istore (ls2 := [some (.ref b), some (rf G 0), some (rf G 64), some (rf G 79), some (.int (iI v4)), some (.int (iI q310.1)), none, none, none]) C dL_law_1771 (Nat.le_of_ble_eq_true rfl) rfl ?_
        refine go_aload_n C dL_law_1773 rfl rfl ?_
        refine go_aload_n C dL_law_1774 rfl rfl ?_
        refine go_iload C dL_law_1775 rfl ?_
        refine go_iconst C dL_law_1777 ?_
        refine go_iadd C dL_law_1778 ?_
        refine go_sld hscr C dL_law_1779 hc307 ?_
        refine go_aload_n C dL_law_1780 rfl rfl ?_
        refine go_iload C dL_law_1781 rfl ?_
        refine go_iconst C dL_law_1783 ?_
        refine go_iadd C dL_law_1784 ?_
        refine go_sld hscr C dL_law_1785 hc308 ?_
        refine go_aload_n C dL_law_1786 rfl rfl ?_
        refine go_iload C dL_law_1787 rfl ?_
        refine go_iconst C dL_law_1789 ?_
        refine go_iadd C dL_law_1790 ?_
        refine go_sld hscr C dL_law_1791 hc309 ?_
        obtain ⟨q311, h311, h⟩ := ob_some h
        refine go_callV_i C dL_law_1792 (ok_X10_wayNode C.hl hB310 h311) mv_L_207 sh_64 rfl rfl (Nat.le_of_ble_eq_true rfl) ⟨(Nat.le_of_ble_eq_true rfl), (Nat.le_of_ble_eq_true rfl)⟩ ⟨by omega, by omega⟩ (fun hB311 => ?_)
        refine go_istore (ls2 := [some (.ref b), some (rf G 0), some (rf G 64), some (rf G 79), some (.int (iI v4)), some (.int (iI q310.1)), some (.int (iI q311.1)), none, none]) C dL_law_1795 (Nat.le_of_ble_eq_true rfl) rfl ?_
        refine go_aload_n C dL_law_1797 rfl rfl ?_
        obtain ⟨q312, h312, h⟩ := ob_some h
        refine go_callV_i C dL_law_1798 (ok_X10_thrown C.hl hB311 h312) mv_L_118 sh_64 rfl rfl (Nat.le_of_ble_eq_true rfl) ⟨(Nat.le_of_ble_eq_true rfl), (Nat.le_of_ble_eq_true rfl)⟩ ⟨by omega, by omega⟩ (fun hB312 => ?_)
        refine go_iload C dL_law_1801 rfl ?_
        obtain ⟨hc313, h⟩ := chk_some h
        obtain ⟨hc314, h⟩ := chk_some h
        refine go_icmp_eq (tgt := 1808) C dL_law_1803 rfl hc313 hc314 (fun hc315 => ?_) (fun hc315 => ?_)
        · replace h := ite_t hc315 h
          refine go_iload C dL_law_1808 rfl ?_
          refine go_if_ne (tgt := 1825) C dL_law_1810 rfl hc314 (fun hc316 => ?_) (fun hc316 => ?_)
          · replace h := ite_f hc316 h
            refine go_goto (tgt := 2234) C dL_law_1825 rfl ?_
            refine go_iinc (ls2 := [some (.ref b), some (rf G 0), some (rf G 64), some (rf G 79), some (.int (iI (v4 + 5))), some (.int (iI q310.1)), some (.int (iI q311.1)), none, none]) C dL_law_2234 rfl (Nat.le_of_ble_eq_true rfl) rfl ?_
            refine go_goto (tgt := 23) C dL_law_2237 rfl ?_
            refine go_wide (kc' := kc + 5) (ks' := ks + 30) (by omega) (by omega) ?_
            refine go_weak (ls' := [some (.ref b), some (rf G 0), some (rf G 64), some (rf G 79), some (.int (iI (v4 + 5))), none, none, none, none]) ⟨rfl, ⟨rfl, ⟨rfl, ⟨rfl, ⟨rfl, trivial⟩⟩⟩⟩⟩ ?_
            exact ih (v4 + 5) q311.2 (kc + 5) (ks + 30) (by omega) (by omega) hB312 h
          · replace h := ite_t hc316 h
            refine go_aload_n C dL_law_1813 rfl rfl ?_
            refine go_iconst C dL_law_1814 ?_
            refine go_lald (k2 := 1079) C dL_law_1815 sh_79 (by decide) ⟨by decide, by decide⟩ rfl ?_
            refine go_iload C dL_law_1816 rfl ?_
            obtain ⟨hc317, h⟩ := chk_some h
            refine go_i2l C dL_law_1818 hc317 ?_
            refine go_lcmp C dL_law_1819 ?_
            refine go_if_eq (tgt := 1825) C dL_law_1820 rfl (iI_inR _) (fun hc318 => ?_) (fun hc318 => ?_)
            · replace h := ite_t hc318 h
              refine go_goto (tgt := 2234) C dL_law_1825 rfl ?_
              refine go_iinc (ls2 := [some (.ref b), some (rf G 0), some (rf G 64), some (rf G 79), some (.int (iI (v4 + 5))), some (.int (iI q310.1)), some (.int (iI q311.1)), none, none]) C dL_law_2234 rfl (Nat.le_of_ble_eq_true rfl) rfl ?_
              refine go_goto (tgt := 23) C dL_law_2237 rfl ?_
              refine go_wide (kc' := kc + 5) (ks' := ks + 30) (by omega) (by omega) ?_
              refine go_weak (ls' := [some (.ref b), some (rf G 0), some (rf G 64), some (rf G 79), some (.int (iI (v4 + 5))), none, none, none, none]) ⟨rfl, ⟨rfl, ⟨rfl, ⟨rfl, ⟨rfl, trivial⟩⟩⟩⟩⟩ ?_
              exact ih (v4 + 5) q311.2 (kc + 5) (ks + 30) (by omega) (by omega) hB312 h
            · replace h := ite_f hc318 h
              refine go_iconst C dL_law_1823 ?_
              exact absurd (Option.some.inj h) (by decide)
        · replace h := ite_f hc315 h
          refine go_iconst C dL_law_1806 ?_
          exact absurd (Option.some.inj h) (by decide)
      replace h := ite_f hs26 h
      by_cases hs27 : band (zs v4) 63 = 27
      · replace h := ite_t hs27 h
        refine go_tabIn (j := 27) (tgt := 1828) C dL_law_39 hs27 (by decide) (by decide) rfl rfl ?_
        refine go_aload_n C dL_law_1828 rfl rfl ?_
        obtain ⟨q319, h319, h⟩ := ob_some h
        refine go_callV_i C dL_law_1829 (ok_X9_arriving C.hl hB h319) mv_L_208 sh_0 rfl rfl (Nat.le_of_ble_eq_true rfl) ⟨(Nat.le_of_ble_eq_true rfl), (Nat.le_of_ble_eq_true rfl)⟩ ⟨by omega, by omega⟩ (fun hB319 => ?_)
        refine go_aload_n C dL_law_1832 rfl rfl ?_
        obtain ⟨q320, h320, h⟩ := ob_some h
        refine go_callV_i C dL_law_1833 (ok_X10_arriving C.hl hB319 h320) mv_L_211 sh_64 rfl rfl (Nat.le_of_ble_eq_true rfl) ⟨(Nat.le_of_ble_eq_true rfl), (Nat.le_of_ble_eq_true rfl)⟩ ⟨by omega, by omega⟩ (fun hB320 => ?_)
        obtain ⟨hc321, h⟩ := chk_some h
        obtain ⟨hc322, h⟩ := chk_some h
        refine go_icmp_eq (tgt := 2234) C dL_law_1836 rfl hc321 hc322 (fun hc323 => ?_) (fun hc323 => ?_)
        · replace h := ite_t hc323 h
          refine go_iinc (ls2 := [some (.ref b), some (rf G 0), some (rf G 64), some (rf G 79), some (.int (iI (v4 + 5))), none, none, none, none]) C dL_law_2234 rfl (Nat.le_of_ble_eq_true rfl) rfl ?_
          refine go_goto (tgt := 23) C dL_law_2237 rfl ?_
          refine go_wide (kc' := kc + 5) (ks' := ks + 30) (by omega) (by omega) ?_
          exact ih (v4 + 5) q320.2 (kc + 5) (ks + 30) (by omega) (by omega) hB320 h
        · replace h := ite_f hc323 h
          refine go_iconst C dL_law_1839 ?_
          exact absurd (Option.some.inj h) (by decide)
      replace h := ite_f hs27 h
      by_cases hs28 : band (zs v4) 63 = 28
      · replace h := ite_t hs28 h
        refine go_tabIn (j := 28) (tgt := 1841) C dL_law_39 hs28 (by decide) (by decide) rfl rfl ?_
        refine go_aload_n C dL_law_1841 rfl rfl ?_
        obtain ⟨q324, h324, h⟩ := ob_some h
        refine go_callV_d C dL_law_1842 (ok_X9_stretch C.hl hB h324) mv_L_212 sh_0 rfl rfl (Nat.le_of_ble_eq_true rfl) ⟨(Nat.le_of_ble_eq_true rfl), (Nat.le_of_ble_eq_true rfl)⟩ ⟨by omega, by omega⟩ (fun hB324 => ?_)
        refine go_dstore (ls2 := [some (.ref b), some (rf G 0), some (rf G 64), some (rf G 79), some (.int (iI v4)), some (.double q324.1), none, none, none]) C dL_law_1845 (Nat.le_of_ble_eq_true rfl) rfl ?_
        refine go_aload_n C dL_law_1847 rfl rfl ?_
        obtain ⟨q325, h325, h⟩ := ob_some h
        refine go_callV_d C dL_law_1848 (ok_X10_stretch C.hl hB324 h325) mv_L_216 sh_64 rfl rfl (Nat.le_of_ble_eq_true rfl) ⟨(Nat.le_of_ble_eq_true rfl), (Nat.le_of_ble_eq_true rfl)⟩ ⟨by omega, by omega⟩ (fun hB325 => ?_)
        refine go_dstore (ls2 := [some (.ref b), some (rf G 0), some (rf G 64), some (rf G 79), some (.int (iI v4)), some (.double q324.1), none, some (.double q325.1), none]) C dL_law_1851 (Nat.le_of_ble_eq_true rfl) rfl ?_
        refine go_dload C dL_law_1853 rfl ?_
        refine go_dload C dL_law_1855 rfl ?_
        refine go_dcmp C dL_law_1857 ?_
        refine go_if_eq (tgt := 1879) C dL_law_1858 rfl (iI_inR _) (fun hc326 => ?_) (fun hc326 => ?_)
        · replace h := ite_t hc326 h
          refine go_goto (tgt := 2234) C dL_law_1879 rfl ?_
          refine go_iinc (ls2 := [some (.ref b), some (rf G 0), some (rf G 64), some (rf G 79), some (.int (iI (v4 + 5))), some (.double q324.1), none, some (.double q325.1), none]) C dL_law_2234 rfl (Nat.le_of_ble_eq_true rfl) rfl ?_
          refine go_goto (tgt := 23) C dL_law_2237 rfl ?_
          refine go_wide (kc' := kc + 5) (ks' := ks + 30) (by omega) (by omega) ?_
          refine go_weak (ls' := [some (.ref b), some (rf G 0), some (rf G 64), some (rf G 79), some (.int (iI (v4 + 5))), none, none, none, none]) ⟨rfl, ⟨rfl, ⟨rfl, ⟨rfl, ⟨rfl, trivial⟩⟩⟩⟩⟩ ?_
          exact ih (v4 + 5) q325.2 (kc + 5) (ks + 30) (by omega) (by omega) hB325 h
        · replace h := ite_f hc326 h
          refine go_dload C dL_law_1861 rfl ?_
          refine go_dload C dL_law_1863 rfl ?_
          refine go_dcmp C dL_law_1865 ?_
          refine go_if_eq (tgt := 1877) C dL_law_1866 rfl (iI_inR _) (fun hc327 => ?_) (fun hc327 => ?_)
          · replace h := ite_t hc327 h
            refine go_iconst C dL_law_1877 ?_
            exact absurd (Option.some.inj h) (by decide)
          · replace h := ite_f hc327 h
            refine go_dload C dL_law_1869 rfl ?_
            refine go_dload C dL_law_1871 rfl ?_
            refine go_dcmp C dL_law_1873 ?_
            refine go_if_ne (tgt := 1879) C dL_law_1874 rfl (iI_inR _) (fun hc328 => ?_) (fun hc328 => ?_)
            · replace h := ite_f hc328 h
              refine go_goto (tgt := 2234) C dL_law_1879 rfl ?_
              refine go_iinc (ls2 := [some (.ref b), some (rf G 0), some (rf G 64), some (rf G 79), some (.int (iI (v4 + 5))), some (.double q324.1), none, some (.double q325.1), none]) C dL_law_2234 rfl (Nat.le_of_ble_eq_true rfl) rfl ?_
              refine go_goto (tgt := 23) C dL_law_2237 rfl ?_
              refine go_wide (kc' := kc + 5) (ks' := ks + 30) (by omega) (by omega) ?_
              refine go_weak (ls' := [some (.ref b), some (rf G 0), some (rf G 64), some (rf G 79), some (.int (iI (v4 + 5))), none, none, none, none]) ⟨rfl, ⟨rfl, ⟨rfl, ⟨rfl, ⟨rfl, trivial⟩⟩⟩⟩⟩ ?_
              exact ih (v4 + 5) q325.2 (kc + 5) (ks + 30) (by omega) (by omega) hB325 h
            · replace h := ite_t hc328 h
              refine go_iconst C dL_law_1877 ?_
              exact absurd (Option.some.inj h) (by decide)
      replace h := ite_f hs28 h
      by_cases hs29 : band (zs v4) 63 = 29
      · replace h := ite_t hs29 h
        refine go_tabIn (j := 29) (tgt := 1882) C dL_law_39 hs29 (by decide) (by decide) rfl rfl ?_
        refine go_aload_n C dL_law_1882 rfl rfl ?_
        refine go_aload_n C dL_law_1883 rfl rfl ?_
        refine go_iload C dL_law_1884 rfl ?_
        refine go_iconst C dL_law_1886 ?_
        refine go_iadd C dL_law_1887 ?_
        obtain ⟨hc329, h⟩ := chk_some h
        refine go_sld hscr C dL_law_1888 hc329 ?_
        refine go_aload_n C dL_law_1889 rfl rfl ?_
        obtain ⟨q330, h330, h⟩ := ob_some h
        refine go_callSX_i C dL_law_1890 (ok_L_load C.hl hB h330) ms_L_217 rfl rfl (Nat.le_of_ble_eq_true rfl) ⟨(Nat.le_of_ble_eq_true rfl), (Nat.le_of_ble_eq_true rfl)⟩ ⟨by omega, by omega⟩ (fun hB330 => ?_)
        refine go_istore (ls2 := [some (.ref b), some (rf G 0), some (rf G 64), some (rf G 79), some (.int (iI v4)), some (.int (iI q330.1)), none, none, none]) C dL_law_1893 (Nat.le_of_ble_eq_true rfl) rfl ?_
        refine go_aload_n C dL_law_1895 rfl rfl ?_
        refine go_aload_n C dL_law_1896 rfl rfl ?_
        refine go_iload C dL_law_1897 rfl ?_
        refine go_iconst C dL_law_1899 ?_
        refine go_iadd C dL_law_1900 ?_
        refine go_sld hscr C dL_law_1901 hc329 ?_
        obtain ⟨q331, h331, h⟩ := ob_some h
        refine go_callV_i C dL_law_1902 (ok_X10_load C.hl hB330 h331) mv_L_219 sh_64 rfl rfl (Nat.le_of_ble_eq_true rfl) ⟨(Nat.le_of_ble_eq_true rfl), (Nat.le_of_ble_eq_true rfl)⟩ ⟨by omega, by omega⟩ (fun hB331 => ?_)
        refine go_istore (ls2 := [some (.ref b), some (rf G 0), some (rf G 64), some (rf G 79), some (.int (iI v4)), some (.int (iI q330.1)), some (.int (iI q331.1)), none, none]) C dL_law_1905 (Nat.le_of_ble_eq_true rfl) rfl ?_
        refine go_aload_n C dL_law_1907 rfl rfl ?_
        obtain ⟨q332, h332, h⟩ := ob_some h
        refine go_callV_i C dL_law_1908 (ok_X10_thrown C.hl hB331 h332) mv_L_118 sh_64 rfl rfl (Nat.le_of_ble_eq_true rfl) ⟨(Nat.le_of_ble_eq_true rfl), (Nat.le_of_ble_eq_true rfl)⟩ ⟨by omega, by omega⟩ (fun hB332 => ?_)
        refine go_iload C dL_law_1911 rfl ?_
        obtain ⟨hc333, h⟩ := chk_some h
        obtain ⟨hc334, h⟩ := chk_some h
        refine go_icmp_eq (tgt := 1918) C dL_law_1913 rfl hc333 hc334 (fun hc335 => ?_) (fun hc335 => ?_)
        · replace h := ite_t hc335 h
          refine go_iload C dL_law_1918 rfl ?_
          refine go_if_ne (tgt := 1935) C dL_law_1920 rfl hc334 (fun hc336 => ?_) (fun hc336 => ?_)
          · replace h := ite_f hc336 h
            refine go_goto (tgt := 2234) C dL_law_1935 rfl ?_
            refine go_iinc (ls2 := [some (.ref b), some (rf G 0), some (rf G 64), some (rf G 79), some (.int (iI (v4 + 5))), some (.int (iI q330.1)), some (.int (iI q331.1)), none, none]) C dL_law_2234 rfl (Nat.le_of_ble_eq_true rfl) rfl ?_
            refine go_goto (tgt := 23) C dL_law_2237 rfl ?_
            refine go_wide (kc' := kc + 5) (ks' := ks + 30) (by omega) (by omega) ?_
            refine go_weak (ls' := [some (.ref b), some (rf G 0), some (rf G 64), some (rf G 79), some (.int (iI (v4 + 5))), none, none, none, none]) ⟨rfl, ⟨rfl, ⟨rfl, ⟨rfl, ⟨rfl, trivial⟩⟩⟩⟩⟩ ?_
            exact ih (v4 + 5) q331.2 (kc + 5) (ks + 30) (by omega) (by omega) hB332 h
          · replace h := ite_t hc336 h
            refine go_aload_n C dL_law_1923 rfl rfl ?_
            refine go_iconst C dL_law_1924 ?_
            refine go_lald (k2 := 1079) C dL_law_1925 sh_79 (by decide) ⟨by decide, by decide⟩ rfl ?_
            refine go_iload C dL_law_1926 rfl ?_
            obtain ⟨hc337, h⟩ := chk_some h
            refine go_i2l C dL_law_1928 hc337 ?_
            refine go_lcmp C dL_law_1929 ?_
            refine go_if_eq (tgt := 1935) C dL_law_1930 rfl (iI_inR _) (fun hc338 => ?_) (fun hc338 => ?_)
            · replace h := ite_t hc338 h
              refine go_goto (tgt := 2234) C dL_law_1935 rfl ?_
              refine go_iinc (ls2 := [some (.ref b), some (rf G 0), some (rf G 64), some (rf G 79), some (.int (iI (v4 + 5))), some (.int (iI q330.1)), some (.int (iI q331.1)), none, none]) C dL_law_2234 rfl (Nat.le_of_ble_eq_true rfl) rfl ?_
              refine go_goto (tgt := 23) C dL_law_2237 rfl ?_
              refine go_wide (kc' := kc + 5) (ks' := ks + 30) (by omega) (by omega) ?_
              refine go_weak (ls' := [some (.ref b), some (rf G 0), some (rf G 64), some (rf G 79), some (.int (iI (v4 + 5))), none, none, none, none]) ⟨rfl, ⟨rfl, ⟨rfl, ⟨rfl, ⟨rfl, trivial⟩⟩⟩⟩⟩ ?_
              exact ih (v4 + 5) q331.2 (kc + 5) (ks + 30) (by omega) (by omega) hB332 h
            · replace h := ite_f hc338 h
              refine go_iconst C dL_law_1933 ?_
              exact absurd (Option.some.inj h) (by decide)
        · replace h := ite_f hc335 h
          refine go_iconst C dL_law_1916 ?_
          exact absurd (Option.some.inj h) (by decide)
      replace h := ite_f hs29 h
      by_cases hs30 : band (zs v4) 63 = 30
      · replace h := ite_t hs30 h
        refine go_tabIn (j := 30) (tgt := 1938) C dL_law_39 hs30 (by decide) (by decide) rfl rfl ?_
        refine go_aload_n C dL_law_1938 rfl rfl ?_
        refine go_aload_n C dL_law_1939 rfl rfl ?_
        refine go_iload C dL_law_1940 rfl ?_
        refine go_iconst C dL_law_1942 ?_
        refine go_iadd C dL_law_1943 ?_
        obtain ⟨hc339, h⟩ := chk_some h
        refine go_sld hscr C dL_law_1944 hc339 ?_
        refine go_aload_n C dL_law_1945 rfl rfl ?_
        obtain ⟨q340, h340, h⟩ := ob_some h
        refine go_callSX_i C dL_law_1946 (ok_L_lostWithout C.hl hB h340) ms_L_220 rfl rfl (Nat.le_of_ble_eq_true rfl) ⟨(Nat.le_of_ble_eq_true rfl), (Nat.le_of_ble_eq_true rfl)⟩ ⟨by omega, by omega⟩ (fun hB340 => ?_)
        refine go_istore (ls2 := [some (.ref b), some (rf G 0), some (rf G 64), some (rf G 79), some (.int (iI v4)), some (.int (iI q340.1)), none, none, none]) C dL_law_1949 (Nat.le_of_ble_eq_true rfl) rfl ?_
        refine go_aload_n C dL_law_1951 rfl rfl ?_
        refine go_aload_n C dL_law_1952 rfl rfl ?_
        refine go_iload C dL_law_1953 rfl ?_
        refine go_iconst C dL_law_1955 ?_
        refine go_iadd C dL_law_1956 ?_
        refine go_sld hscr C dL_law_1957 hc339 ?_
        obtain ⟨q341, h341, h⟩ := ob_some h
        refine go_callV_i C dL_law_1958 (ok_X10_lostWithout C.hl hB340 h341) mv_L_222 sh_64 rfl rfl (Nat.le_of_ble_eq_true rfl) ⟨(Nat.le_of_ble_eq_true rfl), (Nat.le_of_ble_eq_true rfl)⟩ ⟨by omega, by omega⟩ (fun hB341 => ?_)
        refine go_istore (ls2 := [some (.ref b), some (rf G 0), some (rf G 64), some (rf G 79), some (.int (iI v4)), some (.int (iI q340.1)), some (.int (iI q341.1)), none, none]) C dL_law_1961 (Nat.le_of_ble_eq_true rfl) rfl ?_
        refine go_aload_n C dL_law_1963 rfl rfl ?_
        obtain ⟨q342, h342, h⟩ := ob_some h
        refine go_callV_i C dL_law_1964 (ok_X10_thrown C.hl hB341 h342) mv_L_118 sh_64 rfl rfl (Nat.le_of_ble_eq_true rfl) ⟨(Nat.le_of_ble_eq_true rfl), (Nat.le_of_ble_eq_true rfl)⟩ ⟨by omega, by omega⟩ (fun hB342 => ?_)
        refine go_iload C dL_law_1967 rfl ?_
        obtain ⟨hc343, h⟩ := chk_some h
        obtain ⟨hc344, h⟩ := chk_some h
        refine go_icmp_eq (tgt := 1974) C dL_law_1969 rfl hc343 hc344 (fun hc345 => ?_) (fun hc345 => ?_)
        · replace h := ite_t hc345 h
          refine go_iload C dL_law_1974 rfl ?_
          refine go_if_ne (tgt := 1991) C dL_law_1976 rfl hc344 (fun hc346 => ?_) (fun hc346 => ?_)
          · replace h := ite_f hc346 h
            refine go_goto (tgt := 2234) C dL_law_1991 rfl ?_
            refine go_iinc (ls2 := [some (.ref b), some (rf G 0), some (rf G 64), some (rf G 79), some (.int (iI (v4 + 5))), some (.int (iI q340.1)), some (.int (iI q341.1)), none, none]) C dL_law_2234 rfl (Nat.le_of_ble_eq_true rfl) rfl ?_
            refine go_goto (tgt := 23) C dL_law_2237 rfl ?_
            refine go_wide (kc' := kc + 5) (ks' := ks + 30) (by omega) (by omega) ?_
            refine go_weak (ls' := [some (.ref b), some (rf G 0), some (rf G 64), some (rf G 79), some (.int (iI (v4 + 5))), none, none, none, none]) ⟨rfl, ⟨rfl, ⟨rfl, ⟨rfl, ⟨rfl, trivial⟩⟩⟩⟩⟩ ?_
            exact ih (v4 + 5) q341.2 (kc + 5) (ks + 30) (by omega) (by omega) hB342 h
          · replace h := ite_t hc346 h
            refine go_aload_n C dL_law_1979 rfl rfl ?_
            refine go_iconst C dL_law_1980 ?_
            refine go_lald (k2 := 1079) C dL_law_1981 sh_79 (by decide) ⟨by decide, by decide⟩ rfl ?_
            refine go_iload C dL_law_1982 rfl ?_
            obtain ⟨hc347, h⟩ := chk_some h
            refine go_i2l C dL_law_1984 hc347 ?_
            refine go_lcmp C dL_law_1985 ?_
            refine go_if_eq (tgt := 1991) C dL_law_1986 rfl (iI_inR _) (fun hc348 => ?_) (fun hc348 => ?_)
            · replace h := ite_t hc348 h
              refine go_goto (tgt := 2234) C dL_law_1991 rfl ?_
              refine go_iinc (ls2 := [some (.ref b), some (rf G 0), some (rf G 64), some (rf G 79), some (.int (iI (v4 + 5))), some (.int (iI q340.1)), some (.int (iI q341.1)), none, none]) C dL_law_2234 rfl (Nat.le_of_ble_eq_true rfl) rfl ?_
              refine go_goto (tgt := 23) C dL_law_2237 rfl ?_
              refine go_wide (kc' := kc + 5) (ks' := ks + 30) (by omega) (by omega) ?_
              refine go_weak (ls' := [some (.ref b), some (rf G 0), some (rf G 64), some (rf G 79), some (.int (iI (v4 + 5))), none, none, none, none]) ⟨rfl, ⟨rfl, ⟨rfl, ⟨rfl, ⟨rfl, trivial⟩⟩⟩⟩⟩ ?_
              exact ih (v4 + 5) q341.2 (kc + 5) (ks + 30) (by omega) (by omega) hB342 h
            · replace h := ite_f hc348 h
              refine go_iconst C dL_law_1989 ?_
              exact absurd (Option.some.inj h) (by decide)
        · replace h := ite_f hc345 h
          refine go_iconst C dL_law_1972 ?_
          exact absurd (Option.some.inj h) (by decide)
      replace h := ite_f hs30 h
      by_cases hs31 : band (zs v4) 63 = 31
      · replace h := ite_t hs31 h
        refine go_tabIn (j := 31) (tgt := 1994) C dL_law_39 hs31 (by decide) (by decide) rfl rfl ?_
        refine go_aload_n C dL_law_1994 rfl rfl ?_
        refine go_aload_n C dL_law_1995 rfl rfl ?_
        obtain ⟨q349, h349, h⟩ := ob_some h
        refine go_callSX_i C dL_law_1996 (ok_L_bestCompactness C.hl hB h349) ms_L_223 rfl rfl (Nat.le_of_ble_eq_true rfl) ⟨(Nat.le_of_ble_eq_true rfl), (Nat.le_of_ble_eq_true rfl)⟩ ⟨by omega, by omega⟩ (fun hB349 => ?_)
        refine go_istore (ls2 := [some (.ref b), some (rf G 0), some (rf G 64), some (rf G 79), some (.int (iI v4)), some (.int (iI q349.1)), none, none, none]) C dL_law_1999 (Nat.le_of_ble_eq_true rfl) rfl ?_
        refine go_aload_n C dL_law_2001 rfl rfl ?_
        obtain ⟨q350, h350, h⟩ := ob_some h
        refine go_callV_i C dL_law_2002 (ok_X10_bestCompactness C.hl hB349 h350) mv_L_226 sh_64 rfl rfl (Nat.le_of_ble_eq_true rfl) ⟨(Nat.le_of_ble_eq_true rfl), (Nat.le_of_ble_eq_true rfl)⟩ ⟨by omega, by omega⟩ (fun hB350 => ?_)
        refine go_istore (ls2 := [some (.ref b), some (rf G 0), some (rf G 64), some (rf G 79), some (.int (iI v4)), some (.int (iI q349.1)), some (.int (iI q350.1)), none, none]) C dL_law_2005 (Nat.le_of_ble_eq_true rfl) rfl ?_
        refine go_aload_n C dL_law_2007 rfl rfl ?_
        obtain ⟨q351, h351, h⟩ := ob_some h
        refine go_callV_i C dL_law_2008 (ok_X10_thrown C.hl hB350 h351) mv_L_118 sh_64 rfl rfl (Nat.le_of_ble_eq_true rfl) ⟨(Nat.le_of_ble_eq_true rfl), (Nat.le_of_ble_eq_true rfl)⟩ ⟨by omega, by omega⟩ (fun hB351 => ?_)
        refine go_iload C dL_law_2011 rfl ?_
        obtain ⟨hc352, h⟩ := chk_some h
        obtain ⟨hc353, h⟩ := chk_some h
        refine go_icmp_eq (tgt := 2018) C dL_law_2013 rfl hc352 hc353 (fun hc354 => ?_) (fun hc354 => ?_)
        · replace h := ite_t hc354 h
          refine go_iload C dL_law_2018 rfl ?_
          refine go_if_ne (tgt := 2035) C dL_law_2020 rfl hc353 (fun hc355 => ?_) (fun hc355 => ?_)
          · replace h := ite_f hc355 h
            refine go_goto (tgt := 2234) C dL_law_2035 rfl ?_
            refine go_iinc (ls2 := [some (.ref b), some (rf G 0), some (rf G 64), some (rf G 79), some (.int (iI (v4 + 5))), some (.int (iI q349.1)), some (.int (iI q350.1)), none, none]) C dL_law_2234 rfl (Nat.le_of_ble_eq_true rfl) rfl ?_
            refine go_goto (tgt := 23) C dL_law_2237 rfl ?_
            refine go_wide (kc' := kc + 5) (ks' := ks + 30) (by omega) (by omega) ?_
            refine go_weak (ls' := [some (.ref b), some (rf G 0), some (rf G 64), some (rf G 79), some (.int (iI (v4 + 5))), none, none, none, none]) ⟨rfl, ⟨rfl, ⟨rfl, ⟨rfl, ⟨rfl, trivial⟩⟩⟩⟩⟩ ?_
            exact ih (v4 + 5) q350.2 (kc + 5) (ks + 30) (by omega) (by omega) hB351 h
          · replace h := ite_t hc355 h
            refine go_aload_n C dL_law_2023 rfl rfl ?_
            refine go_iconst C dL_law_2024 ?_
            refine go_lald (k2 := 1079) C dL_law_2025 sh_79 (by decide) ⟨by decide, by decide⟩ rfl ?_
            refine go_iload C dL_law_2026 rfl ?_
            obtain ⟨hc356, h⟩ := chk_some h
            refine go_i2l C dL_law_2028 hc356 ?_
            refine go_lcmp C dL_law_2029 ?_
            refine go_if_eq (tgt := 2035) C dL_law_2030 rfl (iI_inR _) (fun hc357 => ?_) (fun hc357 => ?_)
            · replace h := ite_t hc357 h
              refine go_goto (tgt := 2234) C dL_law_2035 rfl ?_
              refine go_iinc (ls2 := [some (.ref b), some (rf G 0), some (rf G 64), some (rf G 79), some (.int (iI (v4 + 5))), some (.int (iI q349.1)), some (.int (iI q350.1)), none, none]) C dL_law_2234 rfl (Nat.le_of_ble_eq_true rfl) rfl ?_
              refine go_goto (tgt := 23) C dL_law_2237 rfl ?_
              refine go_wide (kc' := kc + 5) (ks' := ks + 30) (by omega) (by omega) ?_
              refine go_weak (ls' := [some (.ref b), some (rf G 0), some (rf G 64), some (rf G 79), some (.int (iI (v4 + 5))), none, none, none, none]) ⟨rfl, ⟨rfl, ⟨rfl, ⟨rfl, ⟨rfl, trivial⟩⟩⟩⟩⟩ ?_
              exact ih (v4 + 5) q350.2 (kc + 5) (ks + 30) (by omega) (by omega) hB351 h
            · replace h := ite_f hc357 h
              refine go_iconst C dL_law_2033 ?_
              exact absurd (Option.some.inj h) (by decide)
        · replace h := ite_f hc354 h
          refine go_iconst C dL_law_2016 ?_
          exact absurd (Option.some.inj h) (by decide)
      replace h := ite_f hs31 h
      by_cases hs32 : band (zs v4) 63 = 32
      · replace h := ite_t hs32 h
        refine go_tabIn (j := 32) (tgt := 2038) C dL_law_39 hs32 (by decide) (by decide) rfl rfl ?_
        refine go_aload_n C dL_law_2038 rfl rfl ?_
        refine go_aload_n C dL_law_2039 rfl rfl ?_
        refine go_iload C dL_law_2040 rfl ?_
        refine go_iconst C dL_law_2042 ?_
        refine go_iadd C dL_law_2043 ?_
        obtain ⟨hc358, h⟩ := chk_some h
        refine go_sld hscr C dL_law_2044 hc358 ?_
        refine go_aload_n C dL_law_2045 rfl rfl ?_
        obtain ⟨q359, h359, h⟩ := ob_some h
        refine go_callSX_i C dL_law_2046 (ok_L_labelings C.hl hB h359) ms_L_227 rfl rfl (Nat.le_of_ble_eq_true rfl) ⟨(Nat.le_of_ble_eq_true rfl), (Nat.le_of_ble_eq_true rfl)⟩ ⟨by omega, by omega⟩ (fun hB359 => ?_)
        refine go_istore (ls2 := [some (.ref b), some (rf G 0), some (rf G 64), some (rf G 79), some (.int (iI v4)), some (.int (iI q359.1)), none, none, none]) C dL_law_2049 (Nat.le_of_ble_eq_true rfl) rfl ?_
        refine go_aload_n C dL_law_2051 rfl rfl ?_
        refine go_aload_n C dL_law_2052 rfl rfl ?_
        refine go_iload C dL_law_2053 rfl ?_
        refine go_iconst C dL_law_2055 ?_
        refine go_iadd C dL_law_2056 ?_
        refine go_sld hscr C dL_law_2057 hc358 ?_
        obtain ⟨q360, h360, h⟩ := ob_some h
        refine go_callV_i C dL_law_2058 (ok_X10_labelings C.hl hB359 h360) mv_L_229 sh_64 rfl rfl (Nat.le_of_ble_eq_true rfl) ⟨(Nat.le_of_ble_eq_true rfl), (Nat.le_of_ble_eq_true rfl)⟩ ⟨by omega, by omega⟩ (fun hB360 => ?_)
        refine go_istore (ls2 := [some (.ref b), some (rf G 0), some (rf G 64), some (rf G 79), some (.int (iI v4)), some (.int (iI q359.1)), some (.int (iI q360.1)), none, none]) C dL_law_2061 (Nat.le_of_ble_eq_true rfl) rfl ?_
        refine go_aload_n C dL_law_2063 rfl rfl ?_
        obtain ⟨q361, h361, h⟩ := ob_some h
        refine go_callV_i C dL_law_2064 (ok_X10_thrown C.hl hB360 h361) mv_L_118 sh_64 rfl rfl (Nat.le_of_ble_eq_true rfl) ⟨(Nat.le_of_ble_eq_true rfl), (Nat.le_of_ble_eq_true rfl)⟩ ⟨by omega, by omega⟩ (fun hB361 => ?_)
        refine go_iload C dL_law_2067 rfl ?_
        obtain ⟨hc362, h⟩ := chk_some h
        obtain ⟨hc363, h⟩ := chk_some h
        refine go_icmp_eq (tgt := 2074) C dL_law_2069 rfl hc362 hc363 (fun hc364 => ?_) (fun hc364 => ?_)
        · replace h := ite_t hc364 h
          refine go_iload C dL_law_2074 rfl ?_
          refine go_if_ne (tgt := 2091) C dL_law_2076 rfl hc363 (fun hc365 => ?_) (fun hc365 => ?_)
          · replace h := ite_f hc365 h
            refine go_goto (tgt := 2234) C dL_law_2091 rfl ?_
            refine go_iinc (ls2 := [some (.ref b), some (rf G 0), some (rf G 64), some (rf G 79), some (.int (iI (v4 + 5))), some (.int (iI q359.1)), some (.int (iI q360.1)), none, none]) C dL_law_2234 rfl (Nat.le_of_ble_eq_true rfl) rfl ?_
            refine go_goto (tgt := 23) C dL_law_2237 rfl ?_
            refine go_wide (kc' := kc + 5) (ks' := ks + 30) (by omega) (by omega) ?_
            refine go_weak (ls' := [some (.ref b), some (rf G 0), some (rf G 64), some (rf G 79), some (.int (iI (v4 + 5))), none, none, none, none]) ⟨rfl, ⟨rfl, ⟨rfl, ⟨rfl, ⟨rfl, trivial⟩⟩⟩⟩⟩ ?_
            exact ih (v4 + 5) q360.2 (kc + 5) (ks + 30) (by omega) (by omega) hB361 h
          · replace h := ite_t hc365 h
            refine go_aload_n C dL_law_2079 rfl rfl ?_
            refine go_iconst C dL_law_2080 ?_
            refine go_lald (k2 := 1079) C dL_law_2081 sh_79 (by decide) ⟨by decide, by decide⟩ rfl ?_
            refine go_iload C dL_law_2082 rfl ?_
            obtain ⟨hc366, h⟩ := chk_some h
            refine go_i2l C dL_law_2084 hc366 ?_
            refine go_lcmp C dL_law_2085 ?_
            refine go_if_eq (tgt := 2091) C dL_law_2086 rfl (iI_inR _) (fun hc367 => ?_) (fun hc367 => ?_)
            · replace h := ite_t hc367 h
              refine go_goto (tgt := 2234) C dL_law_2091 rfl ?_
              refine go_iinc (ls2 := [some (.ref b), some (rf G 0), some (rf G 64), some (rf G 79), some (.int (iI (v4 + 5))), some (.int (iI q359.1)), some (.int (iI q360.1)), none, none]) C dL_law_2234 rfl (Nat.le_of_ble_eq_true rfl) rfl ?_
              refine go_goto (tgt := 23) C dL_law_2237 rfl ?_
              refine go_wide (kc' := kc + 5) (ks' := ks + 30) (by omega) (by omega) ?_
              refine go_weak (ls' := [some (.ref b), some (rf G 0), some (rf G 64), some (rf G 79), some (.int (iI (v4 + 5))), none, none, none, none]) ⟨rfl, ⟨rfl, ⟨rfl, ⟨rfl, ⟨rfl, trivial⟩⟩⟩⟩⟩ ?_
              exact ih (v4 + 5) q360.2 (kc + 5) (ks + 30) (by omega) (by omega) hB361 h
            · replace h := ite_f hc367 h
              refine go_iconst C dL_law_2089 ?_
              exact absurd (Option.some.inj h) (by decide)
        · replace h := ite_f hc364 h
          refine go_iconst C dL_law_2072 ?_
          exact absurd (Option.some.inj h) (by decide)
      replace h := ite_f hs32 h
      by_cases hs33 : band (zs v4) 63 = 33
      · replace h := ite_t hs33 h
        refine go_tabIn (j := 33) (tgt := 2094) C dL_law_39 hs33 (by decide) (by decide) rfl rfl ?_
        refine go_aload_n C dL_law_2094 rfl rfl ?_
        refine go_aload_n C dL_law_2095 rfl rfl ?_
        refine go_iload C dL_law_2096 rfl ?_
        refine go_iconst C dL_law_2098 ?_
        refine go_iadd C dL_law_2099 ?_
        obtain ⟨hc368, h⟩ := chk_some h
        refine go_sld hscr C dL_law_2100 hc368 ?_
        refine go_aload_n C dL_law_2101 rfl rfl ?_
        obtain ⟨q369, h369, h⟩ := ob_some h
        refine go_callSX_i C dL_law_2102 (ok_L_append C.hl hB h369) ms_L_230 rfl rfl (Nat.le_of_ble_eq_true rfl) ⟨(Nat.le_of_ble_eq_true rfl), (Nat.le_of_ble_eq_true rfl)⟩ ⟨by omega, by omega⟩ (fun hB369 => ?_)
        refine go_istore (ls2 := [some (.ref b), some (rf G 0), some (rf G 64), some (rf G 79), some (.int (iI v4)), some (.int (iI q369.1)), none, none, none]) C dL_law_2105 (Nat.le_of_ble_eq_true rfl) rfl ?_
        refine go_aload_n C dL_law_2107 rfl rfl ?_
        refine go_aload_n C dL_law_2108 rfl rfl ?_
        refine go_iload C dL_law_2109 rfl ?_
        refine go_iconst C dL_law_2111 ?_
        refine go_iadd C dL_law_2112 ?_
        refine go_sld hscr C dL_law_2113 hc368 ?_
        obtain ⟨q370, h370, h⟩ := ob_some h
        refine go_callV_i C dL_law_2114 (ok_X10_append C.hl hB369 h370) mv_L_232 sh_64 rfl rfl (Nat.le_of_ble_eq_true rfl) ⟨(Nat.le_of_ble_eq_true rfl), (Nat.le_of_ble_eq_true rfl)⟩ ⟨by omega, by omega⟩ (fun hB370 => ?_)
        refine go_istore (ls2 := [some (.ref b), some (rf G 0), some (rf G 64), some (rf G 79), some (.int (iI v4)), some (.int (iI q369.1)), some (.int (iI q370.1)), none, none]) C dL_law_2117 (Nat.le_of_ble_eq_true rfl) rfl ?_
        refine go_aload_n C dL_law_2119 rfl rfl ?_
        obtain ⟨q371, h371, h⟩ := ob_some h
        refine go_callV_i C dL_law_2120 (ok_X10_thrown C.hl hB370 h371) mv_L_118 sh_64 rfl rfl (Nat.le_of_ble_eq_true rfl) ⟨(Nat.le_of_ble_eq_true rfl), (Nat.le_of_ble_eq_true rfl)⟩ ⟨by omega, by omega⟩ (fun hB371 => ?_)
        refine go_iload C dL_law_2123 rfl ?_
        obtain ⟨hc372, h⟩ := chk_some h
        obtain ⟨hc373, h⟩ := chk_some h
        refine go_icmp_eq (tgt := 2130) C dL_law_2125 rfl hc372 hc373 (fun hc374 => ?_) (fun hc374 => ?_)
        · replace h := ite_t hc374 h
          refine go_iload C dL_law_2130 rfl ?_
          refine go_if_ne (tgt := 2147) C dL_law_2132 rfl hc373 (fun hc375 => ?_) (fun hc375 => ?_)
          · replace h := ite_f hc375 h
            refine go_goto (tgt := 2234) C dL_law_2147 rfl ?_
            refine go_iinc (ls2 := [some (.ref b), some (rf G 0), some (rf G 64), some (rf G 79), some (.int (iI (v4 + 5))), some (.int (iI q369.1)), some (.int (iI q370.1)), none, none]) C dL_law_2234 rfl (Nat.le_of_ble_eq_true rfl) rfl ?_
            refine go_goto (tgt := 23) C dL_law_2237 rfl ?_
            refine go_wide (kc' := kc + 5) (ks' := ks + 30) (by omega) (by omega) ?_
            refine go_weak (ls' := [some (.ref b), some (rf G 0), some (rf G 64), some (rf G 79), some (.int (iI (v4 + 5))), none, none, none, none]) ⟨rfl, ⟨rfl, ⟨rfl, ⟨rfl, ⟨rfl, trivial⟩⟩⟩⟩⟩ ?_
            exact ih (v4 + 5) q370.2 (kc + 5) (ks + 30) (by omega) (by omega) hB371 h
          · replace h := ite_t hc375 h
            refine go_aload_n C dL_law_2135 rfl rfl ?_
            refine go_iconst C dL_law_2136 ?_
            refine go_lald (k2 := 1079) C dL_law_2137 sh_79 (by decide) ⟨by decide, by decide⟩ rfl ?_
            refine go_iload C dL_law_2138 rfl ?_
            obtain ⟨hc376, h⟩ := chk_some h
            refine go_i2l C dL_law_2140 hc376 ?_
            refine go_lcmp C dL_law_2141 ?_
            refine go_if_eq (tgt := 2147) C dL_law_2142 rfl (iI_inR _) (fun hc377 => ?_) (fun hc377 => ?_)
            · replace h := ite_t hc377 h
              refine go_goto (tgt := 2234) C dL_law_2147 rfl ?_
              refine go_iinc (ls2 := [some (.ref b), some (rf G 0), some (rf G 64), some (rf G 79), some (.int (iI (v4 + 5))), some (.int (iI q369.1)), some (.int (iI q370.1)), none, none]) C dL_law_2234 rfl (Nat.le_of_ble_eq_true rfl) rfl ?_
              refine go_goto (tgt := 23) C dL_law_2237 rfl ?_
              refine go_wide (kc' := kc + 5) (ks' := ks + 30) (by omega) (by omega) ?_
              refine go_weak (ls' := [some (.ref b), some (rf G 0), some (rf G 64), some (rf G 79), some (.int (iI (v4 + 5))), none, none, none, none]) ⟨rfl, ⟨rfl, ⟨rfl, ⟨rfl, ⟨rfl, trivial⟩⟩⟩⟩⟩ ?_
              exact ih (v4 + 5) q370.2 (kc + 5) (ks + 30) (by omega) (by omega) hB371 h
            · replace h := ite_f hc377 h
              refine go_iconst C dL_law_2145 ?_
              exact absurd (Option.some.inj h) (by decide)
        · replace h := ite_f hc374 h
          refine go_iconst C dL_law_2128 ?_
          exact absurd (Option.some.inj h) (by decide)
      replace h := ite_f hs33 h
      by_cases hs34 : band (zs v4) 63 = 34
      · replace h := ite_t hs34 h
        refine go_tabIn (j := 34) (tgt := 2150) C dL_law_39 hs34 (by decide) (by decide) rfl rfl ?_
        refine go_aload_n C dL_law_2150 rfl rfl ?_
        obtain ⟨q378, h378, h⟩ := ob_some h
        refine go_callV_i C dL_law_2151 (ok_X9_clearText C.hl hB h378) mv_L_233 sh_0 rfl rfl (Nat.le_of_ble_eq_true rfl) ⟨(Nat.le_of_ble_eq_true rfl), (Nat.le_of_ble_eq_true rfl)⟩ ⟨by omega, by omega⟩ (fun hB378 => ?_)
        refine go_aload_n C dL_law_2154 rfl rfl ?_
        obtain ⟨q379, h379, h⟩ := ob_some h
        refine go_callV_i C dL_law_2155 (ok_X10_clearText C.hl hB378 h379) mv_L_236 sh_64 rfl rfl (Nat.le_of_ble_eq_true rfl) ⟨(Nat.le_of_ble_eq_true rfl), (Nat.le_of_ble_eq_true rfl)⟩ ⟨by omega, by omega⟩ (fun hB379 => ?_)
        obtain ⟨hc380, h⟩ := chk_some h
        obtain ⟨hc381, h⟩ := chk_some h
        refine go_icmp_eq (tgt := 2234) C dL_law_2158 rfl hc380 hc381 (fun hc382 => ?_) (fun hc382 => ?_)
        · replace h := ite_t hc382 h
          refine go_iinc (ls2 := [some (.ref b), some (rf G 0), some (rf G 64), some (rf G 79), some (.int (iI (v4 + 5))), none, none, none, none]) C dL_law_2234 rfl (Nat.le_of_ble_eq_true rfl) rfl ?_
          refine go_goto (tgt := 23) C dL_law_2237 rfl ?_
          refine go_wide (kc' := kc + 5) (ks' := ks + 30) (by omega) (by omega) ?_
          exact ih (v4 + 5) q379.2 (kc + 5) (ks + 30) (by omega) (by omega) hB379 h
        · replace h := ite_f hc382 h
          refine go_iconst C dL_law_2161 ?_
          exact absurd (Option.some.inj h) (by decide)
      replace h := ite_f hs34 h
      by_cases hs35 : band (zs v4) 63 = 35
      · replace h := ite_t hs35 h
        refine go_tabIn (j := 35) (tgt := 2163) C dL_law_39 hs35 (by decide) (by decide) rfl rfl ?_
        refine go_aload_n C dL_law_2163 rfl rfl ?_
        obtain ⟨q383, h383, h⟩ := ob_some h
        refine go_callV_i C dL_law_2164 (ok_X9_parse C.hl hB h383) mv_L_237 sh_0 rfl rfl (Nat.le_of_ble_eq_true rfl) ⟨(Nat.le_of_ble_eq_true rfl), (Nat.le_of_ble_eq_true rfl)⟩ ⟨by omega, by omega⟩ (fun hB383 => ?_)
        refine go_aload_n C dL_law_2167 rfl rfl ?_
        obtain ⟨q384, h384, h⟩ := ob_some h
        refine go_callV_i C dL_law_2168 (ok_X10_parse C.hl hB383 h384) mv_L_240 sh_64 rfl rfl (Nat.le_of_ble_eq_true rfl) ⟨(Nat.le_of_ble_eq_true rfl), (Nat.le_of_ble_eq_true rfl)⟩ ⟨by omega, by omega⟩ (fun hB384 => ?_)
        obtain ⟨hc385, h⟩ := chk_some h
        obtain ⟨hc386, h⟩ := chk_some h
        refine go_icmp_eq (tgt := 2234) C dL_law_2171 rfl hc385 hc386 (fun hc387 => ?_) (fun hc387 => ?_)
        · replace h := ite_t hc387 h
          refine go_iinc (ls2 := [some (.ref b), some (rf G 0), some (rf G 64), some (rf G 79), some (.int (iI (v4 + 5))), none, none, none, none]) C dL_law_2234 rfl (Nat.le_of_ble_eq_true rfl) rfl ?_
          refine go_goto (tgt := 23) C dL_law_2237 rfl ?_
          refine go_wide (kc' := kc + 5) (ks' := ks + 30) (by omega) (by omega) ?_
          exact ih (v4 + 5) q384.2 (kc + 5) (ks + 30) (by omega) (by omega) hB384 h
        · replace h := ite_f hc387 h
          refine go_iconst C dL_law_2174 ?_
          exact absurd (Option.some.inj h) (by decide)
      replace h := ite_f hs35 h
      by_cases hs36 : band (zs v4) 63 = 36
      · replace h := ite_t hs36 h
        refine go_tabIn (j := 36) (tgt := 2176) C dL_law_39 hs36 (by decide) (by decide) rfl rfl ?_
        refine go_aload_n C dL_law_2176 rfl rfl ?_
        refine go_aload_n C dL_law_2177 rfl rfl ?_
        obtain ⟨q388, h388, h⟩ := ob_some h
        refine go_callSX_i C dL_law_2178 (ok_L_undo C.hl hB h388) ms_L_241 rfl rfl (Nat.le_of_ble_eq_true rfl) ⟨(Nat.le_of_ble_eq_true rfl), (Nat.le_of_ble_eq_true rfl)⟩ ⟨by omega, by omega⟩ (fun hB388 => ?_)
        refine go_istore (ls2 := [some (.ref b), some (rf G 0), some (rf G 64), some (rf G 79), some (.int (iI v4)), some (.int (iI q388.1)), none, none, none]) C dL_law_2181 (Nat.le_of_ble_eq_true rfl) rfl ?_
        refine go_aload_n C dL_law_2183 rfl rfl ?_
        obtain ⟨q389, h389, h⟩ := ob_some h
        refine go_callV_i C dL_law_2184 (ok_X10_undo C.hl hB388 h389) mv_L_243 sh_64 rfl rfl (Nat.le_of_ble_eq_true rfl) ⟨(Nat.le_of_ble_eq_true rfl), (Nat.le_of_ble_eq_true rfl)⟩ ⟨by omega, by omega⟩ (fun hB389 => ?_)
        refine go_istore (ls2 := [some (.ref b), some (rf G 0), some (rf G 64), some (rf G 79), some (.int (iI v4)), some (.int (iI q388.1)), some (.int (iI q389.1)), none, none]) C dL_law_2187 (Nat.le_of_ble_eq_true rfl) rfl ?_
        refine go_aload_n C dL_law_2189 rfl rfl ?_
        obtain ⟨q390, h390, h⟩ := ob_some h
        refine go_callV_i C dL_law_2190 (ok_X10_thrown C.hl hB389 h390) mv_L_118 sh_64 rfl rfl (Nat.le_of_ble_eq_true rfl) ⟨(Nat.le_of_ble_eq_true rfl), (Nat.le_of_ble_eq_true rfl)⟩ ⟨by omega, by omega⟩ (fun hB390 => ?_)
        refine go_iload C dL_law_2193 rfl ?_
        obtain ⟨hc391, h⟩ := chk_some h
        obtain ⟨hc392, h⟩ := chk_some h
        refine go_icmp_eq (tgt := 2200) C dL_law_2195 rfl hc391 hc392 (fun hc393 => ?_) (fun hc393 => ?_)
        · replace h := ite_t hc393 h
          refine go_iload C dL_law_2200 rfl ?_
          refine go_if_ne (tgt := 2217) C dL_law_2202 rfl hc392 (fun hc394 => ?_) (fun hc394 => ?_)
          · replace h := ite_f hc394 h
            refine go_goto (tgt := 2234) C dL_law_2217 rfl ?_
            refine go_iinc (ls2 := [some (.ref b), some (rf G 0), some (rf G 64), some (rf G 79), some (.int (iI (v4 + 5))), some (.int (iI q388.1)), some (.int (iI q389.1)), none, none]) C dL_law_2234 rfl (Nat.le_of_ble_eq_true rfl) rfl ?_
            refine go_goto (tgt := 23) C dL_law_2237 rfl ?_
            refine go_wide (kc' := kc + 5) (ks' := ks + 30) (by omega) (by omega) ?_
            refine go_weak (ls' := [some (.ref b), some (rf G 0), some (rf G 64), some (rf G 79), some (.int (iI (v4 + 5))), none, none, none, none]) ⟨rfl, ⟨rfl, ⟨rfl, ⟨rfl, ⟨rfl, trivial⟩⟩⟩⟩⟩ ?_
            exact ih (v4 + 5) q389.2 (kc + 5) (ks + 30) (by omega) (by omega) hB390 h
          · replace h := ite_t hc394 h
            refine go_aload_n C dL_law_2205 rfl rfl ?_
            refine go_iconst C dL_law_2206 ?_
            refine go_lald (k2 := 1079) C dL_law_2207 sh_79 (by decide) ⟨by decide, by decide⟩ rfl ?_
            refine go_iload C dL_law_2208 rfl ?_
            obtain ⟨hc395, h⟩ := chk_some h
            refine go_i2l C dL_law_2210 hc395 ?_
            refine go_lcmp C dL_law_2211 ?_
            refine go_if_eq (tgt := 2217) C dL_law_2212 rfl (iI_inR _) (fun hc396 => ?_) (fun hc396 => ?_)
            · replace h := ite_t hc396 h
              refine go_goto (tgt := 2234) C dL_law_2217 rfl ?_
              refine go_iinc (ls2 := [some (.ref b), some (rf G 0), some (rf G 64), some (rf G 79), some (.int (iI (v4 + 5))), some (.int (iI q388.1)), some (.int (iI q389.1)), none, none]) C dL_law_2234 rfl (Nat.le_of_ble_eq_true rfl) rfl ?_
              refine go_goto (tgt := 23) C dL_law_2237 rfl ?_
              refine go_wide (kc' := kc + 5) (ks' := ks + 30) (by omega) (by omega) ?_
              refine go_weak (ls' := [some (.ref b), some (rf G 0), some (rf G 64), some (rf G 79), some (.int (iI (v4 + 5))), none, none, none, none]) ⟨rfl, ⟨rfl, ⟨rfl, ⟨rfl, ⟨rfl, trivial⟩⟩⟩⟩⟩ ?_
              exact ih (v4 + 5) q389.2 (kc + 5) (ks + 30) (by omega) (by omega) hB390 h
            · replace h := ite_f hc396 h
              refine go_iconst C dL_law_2215 ?_
              exact absurd (Option.some.inj h) (by decide)
        · replace h := ite_f hc393 h
          refine go_iconst C dL_law_2198 ?_
          exact absurd (Option.some.inj h) (by decide)
      replace h := ite_f hs36 h
      by_cases hs37 : band (zs v4) 63 = 37
      · replace h := ite_t hs37 h
        refine go_tabIn (j := 37) (tgt := 2220) C dL_law_39 hs37 (by decide) (by decide) rfl rfl ?_
        refine go_aload_n C dL_law_2220 rfl rfl ?_
        obtain ⟨q397, h397, h⟩ := ob_some h
        refine go_callV_l C dL_law_2221 (ok_X9_digest C.hl hB h397) mv_L_244 sh_0 rfl rfl (Nat.le_of_ble_eq_true rfl) ⟨(Nat.le_of_ble_eq_true rfl), (Nat.le_of_ble_eq_true rfl)⟩ ⟨by omega, by omega⟩ (fun hB397 => ?_)
        refine go_aload_n C dL_law_2224 rfl rfl ?_
        obtain ⟨q398, h398, h⟩ := ob_some h
        refine go_callV_l C dL_law_2225 (ok_X10_digest C.hl hB397 h398) mv_L_248 sh_64 rfl rfl (Nat.le_of_ble_eq_true rfl) ⟨(Nat.le_of_ble_eq_true rfl), (Nat.le_of_ble_eq_true rfl)⟩ ⟨by omega, by omega⟩ (fun hB398 => ?_)
        refine go_lcmp C dL_law_2228 ?_
        refine go_if_eq (tgt := 2234) C dL_law_2229 rfl (iI_inR _) (fun hc399 => ?_) (fun hc399 => ?_)
        · replace h := ite_t hc399 h
          refine go_iinc (ls2 := [some (.ref b), some (rf G 0), some (rf G 64), some (rf G 79), some (.int (iI (v4 + 5))), none, none, none, none]) C dL_law_2234 rfl (Nat.le_of_ble_eq_true rfl) rfl ?_
          refine go_goto (tgt := 23) C dL_law_2237 rfl ?_
          refine go_wide (kc' := kc + 5) (ks' := ks + 30) (by omega) (by omega) ?_
          exact ih (v4 + 5) q398.2 (kc + 5) (ks + 30) (by omega) (by omega) hB398 h
        · replace h := ite_f hc399 h
          refine go_iconst C dL_law_2232 ?_
          exact absurd (Option.some.inj h) (by decide)
      replace h := ite_f hs37 h
      refine go_tabOut (tgt := 2234) C dL_law_39 (band_R _ _) (by omega) rfl ?_
      refine go_iinc (ls2 := [some (.ref b), some (rf G 0), some (rf G 64), some (rf G 79), some (.int (iI (v4 + 5))), none, none, none, none]) C dL_law_2234 rfl (Nat.le_of_ble_eq_true rfl) rfl ?_
      refine go_goto (tgt := 23) C dL_law_2237 rfl ?_
      refine go_wide (kc' := kc + 5) (ks' := ks + 30) (by omega) (by omega) ?_
      exact ih (v4 + 5) M (kc + 5) (ks + 30) (by omega) (by omega) hB h
