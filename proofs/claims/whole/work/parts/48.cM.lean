set_option maxRecDepth 100000 in
set_option maxHeartbeats 4000000 in
theorem c_X12_sweep {l : Launch} {D : va_G} {cy : Nat → ClassId} {bs : Nat} {V : HV} (o0 : Nat) (ho0 : o0 < 1) {z : HV} (hz : f_X12_sweep o0 V = some z) : CM l (aG 57 bs) D (tyL cy) (vwM cy bs) yX12_sweep cX12_sweep 5 none 3 70 tvV [.ref (bs + posM 10 o0)] V ((), z) := by
  refine cm_of vwM_D (by decide +kernel) (own := RX12) rfl (Nat.le_of_ble_eq_true rfl) (L := [some (.ref (bs + posM 10 o0)), none, none, none, none]) rfl hz (fun Γ => ?_)
  unfold f_X12_sweep
  refine ag_aload_n dX12_sweep_0 rfl ?_
  refine gM_X12_sweeper ho0 fl_X12_231 dX12_sweep_1 ?_
  refine ag_iconst (v := (-1)) dX12_sweep_4 (by decide) ?_
  refine ag_icmp_ne (tgt := 113) dX12_sweep_5 (by decide) (fun h1 => ?_) (fun h1 => ?_)
  · refine ag_iconst (v := 0) dX12_sweep_113 (by decide) ?_
    refine ag_istore_n (L' := [some (.ref (bs + posM 10 o0)), some (.int 0), none, none, none]) dX12_sweep_114 (by decide) rfl ?_
    refine ag_jn1 (j := 199) (L1 := fun V4 => [some (.ref (bs + posM 10 o0)), none, none, none, none]) (st1 := fun V4 => []) (ws1 := fun V4 => vwM cy bs V4) (fun V4 => ?_) (fun k2 hk3 => ?_)
    · refine ag_aload_n dX12_sweep_199 rfl ?_
      refine gM_X12_sweeper ho0 fl_X12_231 dX12_sweep_200 ?_
      refine ag_aload_n dX12_sweep_203 rfl ?_
      refine gM_X12_size ho0 fl_X12_175 dX12_sweep_204 ?_
      refine ag_bipush (v := 16) dX12_sweep_207 (by decide) ?_
      refine ag_idiv dX12_sweep_209 (by decide) ?_
      refine ag_icmp_ge (tgt := 214) dX12_sweep_210 (by decide) (fun h5 => ?_) (fun h5 => ?_)
      · refine ag_iconst (v := 0) dX12_sweep_214 (by decide) ?_
        refine ag_istore_n (L' := [some (.ref (bs + posM 10 o0)), some (.int 0), none, none, none]) dX12_sweep_215 (by decide) rfl ?_
        refine ag_jn1 (j := 234) (L1 := fun V8 => [some (.ref (bs + posM 10 o0)), none, none, none, none]) (st1 := fun V8 => []) (ws1 := fun V8 => vwM cy bs V8) (fun V8 => ?_) (fun k6 hk7 => ?_)
        · refine ag_iconst (v := 0) dX12_sweep_234 (by decide) ?_
          refine ag_istore_n (L' := [some (.ref (bs + posM 10 o0)), some (.int 0), none, none, none]) dX12_sweep_235 (by decide) rfl ?_
          refine ag_iconst (v := 0) dX12_sweep_236 (by decide) ?_
          refine ag_istore_n (L' := [some (.ref (bs + posM 10 o0)), some (.int 0), some (.int 0), none, none]) dX12_sweep_237 (by decide) rfl ?_
          refine ag_jn2 (j := 383) (L1 := fun v11 V12 => [some (.ref (bs + posM 10 o0)), some (.int v11), none, none, none]) (st1 := fun v11 V12 => []) (ws1 := fun v11 V12 => vwM cy bs V12) (fun v11 V12 => ?_) (fun k9 hk10 => ?_)
          · refine ag_aload_n dX12_sweep_383 rfl ?_
            refine ag_iload_n dX12_sweep_384 rfl ?_
            refine pM_X12_objects ho0 fl_X12_225 dX12_sweep_385 ?_
            refine ag_ltV (fun V13 => ?_)
            refine ag_aload_n dX12_sweep_388 rfl ?_
            refine ag_iconst (v := (-1)) dX12_sweep_389 (by decide) ?_
            refine pM_X12_sweeper ho0 fl_X12_231 dX12_sweep_390 ?_
            refine ag_ltV (fun V14 => ?_)
            refine ag_aload_n dX12_sweep_393 rfl ?_
            refine ag_dup dX12_sweep_394 rfl ?_
            refine gM_X12_sweeps ho0 fl_X12_234 dX12_sweep_395 ?_
            refine ag_iconst (v := 1) dX12_sweep_398 (by decide) ?_
            refine ag_iadd dX12_sweep_399 ?_
            refine pM_X12_sweeps ho0 fl_X12_234 dX12_sweep_400 ?_
            refine ag_ltV (fun V15 => ?_)
            refine ag_iconst (v := 0) dX12_sweep_403 (by decide) ?_
            refine ag_istore_n (L' := [some (.ref (bs + posM 10 o0)), some (.int v11), some (.int 0), none, none]) dX12_sweep_404 (by decide) rfl ?_
            refine ag_jn1 (j := 476) (L1 := fun V18 => [some (.ref (bs + posM 10 o0)), some (.int v11), none, none, none]) (st1 := fun V18 => []) (ws1 := fun V18 => vwM cy bs V18) (fun V18 => ?_) (fun k16 hk17 => ?_)
            · exact ag_vrep dX12_sweep_476
            · refine ag_loop2 (F := f_X12_sweep_L405 o0 k16) (L1 := fun v19 V20 => [some (.ref (bs + posM 10 o0)), some (.int v11), some (.int v19), none, none]) (st1 := fun v19 V20 => []) (ws1 := fun v19 V20 => vwM cy bs V20) (fun n21 ih22 v19 V20 => ?_) (fun _ _ => rfl) FU 0 V15
              rw [f_X12_sweep_L405]
              refine ag_iload_n dX12_sweep_405 rfl ?_
              refine ag_aload_n dX12_sweep_406 rfl ?_
              refine gM_X12_threads ho0 fl_X12_198 dX12_sweep_407 ?_
              refine ag_icmp_ge (tgt := 476) dX12_sweep_410 (by decide) (fun h23 => ?_) (fun h23 => ?_)
              · refine ag_drop [2] (L' := [some (.ref (bs + posM 10 o0)), some (.int v11), none, none, none]) rfl ?_
                exact hk17 V20
              · refine ag_aload_n dX12_sweep_413 rfl ?_
                refine gM_X12_state ho0 fl_X12_61 dX12_sweep_414 ?_
                refine ag_iload_n dX12_sweep_417 rfl ?_
                refine ag_chk (fun h24 => ?_)
                refine aM_47 (by decide) h24 dX12_sweep_418 ?_
                refine ag_iconst (v := 1) dX12_sweep_419 (by decide) ?_
                refine ag_jn1 (j := 470) (L1 := fun V25 => [some (.ref (bs + posM 10 o0)), some (.int v11), some (.int v19), none, none]) (st1 := fun V25 => []) (ws1 := fun V25 => vwM cy bs V25) (fun V25 => ?_) (fun k26 hk27 => ?_)
                · refine ag_iincL (L' := fun v28 => [some (.ref (bs + posM 10 o0)), some (.int v11), some (.int v28), none, none]) dX12_sweep_470 (by decide) rfl (by decide) (fun _ => rfl) (fun v28 => ?_)
                  refine ag_goto (tgt := 405) dX12_sweep_473 (by decide) ?_
                  exact ih22 v28 V25
                · refine ag_icmp_ne (tgt := 470) dX12_sweep_420 (by decide) (fun h29 => ?_) (fun h29 => ?_)
                  · exact hk27 V20
                  · refine ag_aload_n dX12_sweep_423 rfl ?_
                    refine gM_X12_wants ho0 fl_X12_109 dX12_sweep_424 ?_
                    refine ag_iload_n dX12_sweep_427 rfl ?_
                    refine ag_chk (fun h30 => ?_)
                    refine aM_63 (by decide) h30 dX12_sweep_428 ?_
                    refine ag_if_le (tgt := 470) dX12_sweep_429 (by decide) (fun h31 => ?_) (fun h31 => ?_)
                    · exact hk27 V20
                    · refine ag_aload_n dX12_sweep_432 rfl ?_
                      refine ag_iload_n dX12_sweep_433 rfl ?_
                      refine ag_aload_n dX12_sweep_434 rfl ?_
                      refine gM_X12_wants ho0 fl_X12_109 dX12_sweep_435 ?_
                      refine ag_iload_n dX12_sweep_438 rfl ?_
                      refine ag_chk (fun h32 => ?_)
                      refine aM_63 (by decide) h32 dX12_sweep_439 ?_
                      refine ag_bnd (fun p33 hp33 => ?_)
                      refine ag_ivZe (c_X12_gets o0 v19 (V20 6300 0 (v19).toNatClampNeg) ho0 hp33) vwM_D (vwM_at (kpM_10 _ ho0)) rfl cs_X12_497 rfl rfl (Nat.le_of_ble_eq_true rfl) ⟨by decide, by decide⟩ ⟨Nat.zero_le _, Nat.zero_le _⟩ dX12_sweep_440 ?_
                      refine ag_jn1 (j := 456) (L1 := fun V34 => [some (.ref (bs + posM 10 o0)), some (.int v11), some (.int v19), none, none]) (st1 := fun V34 => []) (ws1 := fun V34 => vwM cy bs V34) (fun V34 => ?_) (fun k35 hk36 => ?_)
                      · refine ag_aload_n dX12_sweep_456 rfl ?_
                        refine gM_X12_wants ho0 fl_X12_109 dX12_sweep_457 ?_
                        refine ag_iload_n dX12_sweep_460 rfl ?_
                        refine ag_iconst (v := 0) dX12_sweep_461 (by decide) ?_
                        refine ag_chk (fun h37 => ?_)
                        refine sM_63 (by decide) h37 dX12_sweep_462 ?_
                        refine ag_ltV (fun V38 => ?_)
                        refine ag_aload_n dX12_sweep_463 rfl ?_
                        refine gM_X12_state ho0 fl_X12_61 dX12_sweep_464 ?_
                        refine ag_iload_n dX12_sweep_467 rfl ?_
                        refine ag_iconst (v := 0) dX12_sweep_468 (by decide) ?_
                        refine ag_chk (fun h39 => ?_)
                        refine sM_47 (by decide) h39 dX12_sweep_469 ?_
                        refine ag_ltV (fun V40 => ?_)
                        exact hk27 V40
                      · refine ag_bif_ne (tgt := 456) dX12_sweep_443 (by decide) (fun h41 => ?_) (fun h41 => ?_)
                        · exact hk36 p33.2
                        · refine ag_aload_n dX12_sweep_446 rfl ?_
                          refine ag_iload_n dX12_sweep_447 rfl ?_
                          refine ag_bipush (v := 10) dX12_sweep_448 (by decide) ?_
                          refine ag_isIp (c_X12_reg v19 10  rfl) vwM_D cs_X12_307 rfl rfl (Nat.le_of_ble_eq_true rfl) ⟨by decide, by decide⟩ ⟨Nat.zero_le _, Nat.zero_le _⟩ dX12_sweep_450 ?_
                          refine ag_ltI (fun v42 => ?_)
                          refine ag_bnd (fun p43 hp43 => ?_)
                          refine ag_ivVe (c_X12_nothing o0 v42 ho0 hp43) vwM_D (vwM_at (kpM_10 _ ho0)) rfl cs_X12_246 rfl rfl (Nat.le_of_ble_eq_true rfl) ⟨by decide, by decide⟩ ⟨Nat.zero_le _, Nat.zero_le _⟩ dX12_sweep_453 ?_
                          exact hk36 p43
          · refine ag_loop3 (F := f_X12_sweep_L238 o0 k9) (L1 := fun v44 v45 V46 => [some (.ref (bs + posM 10 o0)), some (.int v44), some (.int v45), none, none]) (st1 := fun v44 v45 V46 => []) (ws1 := fun v44 v45 V46 => vwM cy bs V46) (fun n47 ih48 v44 v45 V46 => ?_) (fun _ _ _ => rfl) FU 0 0 V8
            rw [f_X12_sweep_L238]
            refine ag_iload_n dX12_sweep_238 rfl ?_
            refine ag_aload_n dX12_sweep_239 rfl ?_
            refine gM_X12_objects ho0 fl_X12_225 dX12_sweep_240 ?_
            refine ag_icmp_ge (tgt := 383) dX12_sweep_243 (by decide) (fun h49 => ?_) (fun h49 => ?_)
            · refine ag_drop [2] (L' := [some (.ref (bs + posM 10 o0)), some (.int v44), none, none, none]) rfl ?_
              exact hk10 v44 V46
            · refine ag_aload_n dX12_sweep_246 rfl ?_
              refine gM_X12_isFreed ho0 fl_X12_127 dX12_sweep_247 ?_
              refine ag_iload_n dX12_sweep_250 rfl ?_
              refine ag_chk (fun h50 => ?_)
              refine aM_78 (by decide) h50 dX12_sweep_251 ?_
              refine ag_jn1 (j := 269) (L1 := fun v51 => [some (.ref (bs + posM 10 o0)), some (.int v44), some (.int v45), none, none]) (st1 := fun v51 => [.int (b2i v51)]) (ws1 := fun v51 => vwM cy bs V46) (fun v51 => ?_) (fun k52 hk53 => ?_)
              · refine ag_istore_n (L' := [some (.ref (bs + posM 10 o0)), some (.int v44), some (.int v45), some (.int (b2i v51)), none]) dX12_sweep_269 (by decide) rfl ?_
                refine ag_aload_n dX12_sweep_270 rfl ?_
                refine gM_X12_objectAt ho0 fl_X12_121 dX12_sweep_271 ?_
                refine ag_iload_n dX12_sweep_274 rfl ?_
                refine ag_chk (fun h54 => ?_)
                refine aM_76 (by decide) h54 dX12_sweep_275 ?_
                refine ag_ltI (fun v55 => ?_)
                refine ag_istore (L' := [some (.ref (bs + posM 10 o0)), some (.int v44), some (.int v45), some (.int (b2i v51)), some (.int v55)]) dX12_sweep_276 (by decide) rfl ?_
                refine ag_jn1 (j := 317) (L1 := fun V58 => [some (.ref (bs + posM 10 o0)), some (.int v44), some (.int v45), some (.int (b2i v51)), none]) (st1 := fun V58 => []) (ws1 := fun V58 => vwM cy bs V58) (fun V58 => ?_) (fun k56 hk57 => ?_)
                · refine ag_aload_n dX12_sweep_317 rfl ?_
                  refine gM_X12_objectAt ho0 fl_X12_121 dX12_sweep_318 ?_
                  refine ag_iload_n dX12_sweep_321 rfl ?_
                  refine ag_aload_n dX12_sweep_322 rfl ?_
                  refine gM_X12_objectAt ho0 fl_X12_121 dX12_sweep_323 ?_
                  refine ag_iload_n dX12_sweep_326 rfl ?_
                  refine ag_chk (fun h59 => ?_)
                  refine aM_76 (by decide) h59 dX12_sweep_327 ?_
                  refine ag_chk (fun h60 => ?_)
                  refine sM_76 (by decide) h60 dX12_sweep_328 ?_
                  refine ag_ltV (fun V61 => ?_)
                  refine ag_aload_n dX12_sweep_329 rfl ?_
                  refine gM_X12_objectSize ho0 fl_X12_124 dX12_sweep_330 ?_
                  refine ag_iload_n dX12_sweep_333 rfl ?_
                  refine ag_aload_n dX12_sweep_334 rfl ?_
                  refine gM_X12_objectSize ho0 fl_X12_124 dX12_sweep_335 ?_
                  refine ag_iload_n dX12_sweep_338 rfl ?_
                  refine ag_chk (fun h62 => ?_)
                  refine aM_77 (by decide) h62 dX12_sweep_339 ?_
                  refine ag_chk (fun h63 => ?_)
                  refine sM_77 (by decide) h63 dX12_sweep_340 ?_
                  refine ag_ltV (fun V64 => ?_)
                  refine ag_aload_n dX12_sweep_341 rfl ?_
                  refine gM_X12_isFreed ho0 fl_X12_127 dX12_sweep_342 ?_
                  refine ag_iload_n dX12_sweep_345 rfl ?_
                  refine ag_aload_n dX12_sweep_346 rfl ?_
                  refine gM_X12_isFreed ho0 fl_X12_127 dX12_sweep_347 ?_
                  refine ag_iload_n dX12_sweep_350 rfl ?_
                  refine ag_chk (fun h65 => ?_)
                  refine aM_78 (by decide) h65 dX12_sweep_351 ?_
                  refine ag_chk (fun h66 => ?_)
                  refine sM_78 (x := (i2b (V64 7800 0 (v45).toNatClampNeg))) (by decide) h66 dX12_sweep_352 ?_
                  refine ag_ltV (fun V67 => ?_)
                  refine ag_aload_n dX12_sweep_353 rfl ?_
                  refine gM_X12_isSwept ho0 fl_X12_130 dX12_sweep_354 ?_
                  refine ag_iload_n dX12_sweep_357 rfl ?_
                  refine ag_aload_n dX12_sweep_358 rfl ?_
                  refine gM_X12_isSwept ho0 fl_X12_130 dX12_sweep_359 ?_
                  refine ag_iload_n dX12_sweep_362 rfl ?_
                  refine ag_chk (fun h68 => ?_)
                  refine aM_79 (by decide) h68 dX12_sweep_363 ?_
                  refine ag_chk (fun h69 => ?_)
                  refine sM_79 (x := (i2b (V67 7900 0 (v45).toNatClampNeg))) (by decide) h69 dX12_sweep_364 ?_
                  refine ag_ltV (fun V70 => ?_)
                  refine ag_iload_n dX12_sweep_365 rfl ?_
                  refine ag_iload_n dX12_sweep_366 rfl ?_
                  refine ag_dv (j := 375) (L1 := fun _ => [some (.ref (bs + posM 10 o0)), some (.int v44), some (.int v45), some (.int (b2i v51)), none]) (st1 := fun v71 => [.int (b2i v71), .int v44]) (ws1 := fun _ => vwM cy bs V70) (fun v71 => ?_) (fun k75 hk72 => ?_)
                  · refine ag_iadd dX12_sweep_375 ?_
                    refine ag_ltI (fun v73 => ?_)
                    refine ag_istore_n (L' := [some (.ref (bs + posM 10 o0)), some (.int v73), some (.int v45), some (.int (b2i v51)), none]) dX12_sweep_376 (by decide) rfl ?_
                    refine ag_iincL (L' := fun v74 => [some (.ref (bs + posM 10 o0)), some (.int v73), some (.int v74), some (.int (b2i v51)), none]) dX12_sweep_377 (by decide) rfl (by decide) (fun _ => rfl) (fun v74 => ?_)
                    refine ag_goto (tgt := 238) dX12_sweep_380 (by decide) ?_
                    refine ag_drop [3] (L' := [some (.ref (bs + posM 10 o0)), some (.int v73), some (.int v74), none, none]) rfl ?_
                    exact ih48 v73 v74 V70
                  · refine ag_bif_eq_v (tgt := 374) dX12_sweep_367 (by decide) (fun h76 => ?_) (fun h76 => ?_)
                    · refine ag_iconst (v := 1) dX12_sweep_374 (by decide) ?_
                      exact hk72 true
                    · refine ag_iconst (v := 0) dX12_sweep_370 (by decide) ?_
                      refine ag_goto (tgt := 375) dX12_sweep_371 (by decide) ?_
                      exact hk72 false
                · refine ag_loop2 (F := f_X12_sweep_L278 v45 v51 k56) (L1 := fun v77 V78 => [some (.ref (bs + posM 10 o0)), some (.int v44), some (.int v45), some (.int (b2i v51)), some (.int v77)]) (st1 := fun v77 V78 => []) (ws1 := fun v77 V78 => vwM cy bs V78) (fun n79 ih80 v77 V78 => ?_) (fun _ _ => rfl) FU v55 V46
                  rw [f_X12_sweep_L278]
                  refine ag_iload_n dX12_sweep_278 rfl ?_
                  refine ag_bif_eq (tgt := 317) dX12_sweep_279 (by decide) (fun h81 => ?_) (fun h81 => ?_)
                  · refine ag_drop [4] (L' := [some (.ref (bs + posM 10 o0)), some (.int v44), some (.int v45), some (.int (b2i v51)), none]) rfl ?_
                    exact hk57 V78
                  · refine ag_iload dX12_sweep_282 rfl ?_
                    refine ag_aload_n dX12_sweep_284 rfl ?_
                    refine gM_X12_objectAt ho0 fl_X12_121 dX12_sweep_285 ?_
                    refine ag_iload_n dX12_sweep_288 rfl ?_
                    refine ag_chk (fun h82 => ?_)
                    refine aM_76 (by decide) h82 dX12_sweep_289 ?_
                    refine ag_aload_n dX12_sweep_290 rfl ?_
                    refine gM_X12_objectSize ho0 fl_X12_124 dX12_sweep_291 ?_
                    refine ag_iload_n dX12_sweep_294 rfl ?_
                    refine ag_chk (fun h83 => ?_)
                    refine aM_77 (by decide) h83 dX12_sweep_295 ?_
                    refine ag_iadd dX12_sweep_296 ?_
                    refine ag_icmp_ge (tgt := 317) dX12_sweep_297 (by decide) (fun h84 => ?_) (fun h84 => ?_)
                    · refine ag_drop [4] (L' := [some (.ref (bs + posM 10 o0)), some (.int v44), some (.int v45), some (.int (b2i v51)), none]) rfl ?_
                      exact hk57 V78
                    · refine ag_aload_n dX12_sweep_300 rfl ?_
                      refine gM_X12_revoked ho0 fl_X12_185 dX12_sweep_301 ?_
                      refine ag_iload dX12_sweep_304 rfl ?_
                      refine ag_bipush (v := 16) dX12_sweep_306 (by decide) ?_
                      refine ag_idiv dX12_sweep_308 (by decide) ?_
                      refine ag_iconst (v := 0) dX12_sweep_309 (by decide) ?_
                      refine ag_chk (fun h85 => ?_)
                      refine sM_23 (x := false) (by decide) h85 dX12_sweep_310 ?_
                      refine ag_ltV (fun V86 => ?_)
                      refine ag_iincL (L' := fun v87 => [some (.ref (bs + posM 10 o0)), some (.int v44), some (.int v45), some (.int (b2i v51)), some (.int v87)]) dX12_sweep_311 (by decide) rfl (by decide) (fun _ => rfl) (fun v87 => ?_)
                      refine ag_goto (tgt := 278) dX12_sweep_314 (by decide) ?_
                      exact ih80 v87 V86
              · refine ag_jn0 (j := 268) (L1 := [some (.ref (bs + posM 10 o0)), some (.int v44), some (.int v45), none, none]) (st1 := []) (ws1 := vwM cy bs V46) (?_) (fun k88 hk89 => ?_)
                · refine ag_iconst (v := 0) dX12_sweep_268 (by decide) ?_
                  exact hk53 false
                · refine ag_bif_eq (tgt := 268) dX12_sweep_252 (by decide) (fun h90 => ?_) (fun h90 => ?_)
                  · exact hk89
                  · refine ag_aload_n dX12_sweep_255 rfl ?_
                    refine gM_X12_isSwept ho0 fl_X12_130 dX12_sweep_256 ?_
                    refine ag_iload_n dX12_sweep_259 rfl ?_
                    refine ag_chk (fun h91 => ?_)
                    refine aM_79 (by decide) h91 dX12_sweep_260 ?_
                    refine ag_bif_eq (tgt := 268) dX12_sweep_261 (by decide) (fun h92 => ?_) (fun h92 => ?_)
                    · exact hk89
                    · refine ag_iconst (v := 1) dX12_sweep_264 (by decide) ?_
                      refine ag_goto (tgt := 269) dX12_sweep_265 (by decide) ?_
                      exact hk53 true
        · refine ag_loop2 (F := f_X12_sweep_L216 o0 k6) (L1 := fun v93 V94 => [some (.ref (bs + posM 10 o0)), some (.int v93), none, none, none]) (st1 := fun v93 V94 => []) (ws1 := fun v93 V94 => vwM cy bs V94) (fun n95 ih96 v93 V94 => ?_) (fun _ _ => rfl) FU 0 V4
          rw [f_X12_sweep_L216]
          refine ag_iload_n dX12_sweep_216 rfl ?_
          refine ag_sipush (v := 582) dX12_sweep_217 (by decide) ?_
          refine ag_icmp_ge (tgt := 234) dX12_sweep_220 (by decide) (fun h97 => ?_) (fun h97 => ?_)
          · refine ag_drop [1] (L' := [some (.ref (bs + posM 10 o0)), none, none, none, none]) rfl ?_
            exact hk7 V94
          · refine ag_aload_n dX12_sweep_223 rfl ?_
            refine ag_iload_n dX12_sweep_224 rfl ?_
            refine ag_bnd (fun p98 hp98 => ?_)
            refine ag_ivVe (c_X12_filter o0 v93 ho0 hp98) vwM_D (vwM_at (kpM_10 _ ho0)) rfl cs_X12_417 rfl rfl (Nat.le_of_ble_eq_true rfl) ⟨by decide, by decide⟩ ⟨Nat.zero_le _, Nat.zero_le _⟩ dX12_sweep_225 ?_
            refine ag_iincL (L' := fun v99 => [some (.ref (bs + posM 10 o0)), some (.int v99), none, none, none]) dX12_sweep_228 (by decide) rfl (by decide) (fun _ => rfl) (fun v99 => ?_)
            refine ag_goto (tgt := 216) dX12_sweep_231 (by decide) ?_
            exact ih96 v99 p98
      · exact ag_vrep dX12_sweep_213
    · refine ag_loop2 (F := f_X12_sweep_L115 o0 k2) (L1 := fun v100 V101 => [some (.ref (bs + posM 10 o0)), some (.int v100), none, none, none]) (st1 := fun v100 V101 => []) (ws1 := fun v100 V101 => vwM cy bs V101) (fun n102 ih103 v100 V101 => ?_) (fun _ _ => rfl) FU 0 V
      rw [f_X12_sweep_L115]
      refine ag_iload_n dX12_sweep_115 rfl ?_
      refine ag_iconst (v := 4) dX12_sweep_116 (by decide) ?_
      refine ag_icmp_ge (tgt := 199) dX12_sweep_117 (by decide) (fun h104 => ?_) (fun h104 => ?_)
      · refine ag_drop [1] (L' := [some (.ref (bs + posM 10 o0)), none, none, none, none]) rfl ?_
        exact hk3 V101
      · refine ag_aload_n dX12_sweep_120 rfl ?_
        refine gM_X12_sweeper ho0 fl_X12_231 dX12_sweep_121 ?_
        refine ag_aload_n dX12_sweep_124 rfl ?_
        refine gM_X12_size ho0 fl_X12_175 dX12_sweep_125 ?_
        refine ag_bipush (v := 16) dX12_sweep_128 (by decide) ?_
        refine ag_idiv dX12_sweep_130 (by decide) ?_
        refine ag_icmp_ge (tgt := 199) dX12_sweep_131 (by decide) (fun h105 => ?_) (fun h105 => ?_)
        · refine ag_drop [1] (L' := [some (.ref (bs + posM 10 o0)), none, none, none, none]) rfl ?_
          exact hk3 V101
        · refine ag_aload_n dX12_sweep_134 rfl ?_
          refine ag_bipush (v := 16) dX12_sweep_135 (by decide) ?_
          refine ag_aload_n dX12_sweep_137 rfl ?_
          refine gM_X12_sweeper ho0 fl_X12_231 dX12_sweep_138 ?_
          refine ag_imul dX12_sweep_141 ?_
          refine ag_sipush (v := 582) dX12_sweep_142 (by decide) ?_
          refine ag_bnd (fun p106 hp106 => ?_)
          refine ag_ivVe (c_X12_getCapability o0 (16 * (V101 1061 o0 0)) 582 ho0 hp106) vwM_D (vwM_at (kpM_10 _ ho0)) rfl cs_X12_414 rfl rfl (Nat.le_of_ble_eq_true rfl) ⟨by decide, by decide⟩ ⟨Nat.zero_le _, Nat.zero_le _⟩ dX12_sweep_145 ?_
          refine ag_aload_n dX12_sweep_148 rfl ?_
          refine gM_X12_tags ho0 fl_X12_182 dX12_sweep_149 ?_
          refine ag_aload_n dX12_sweep_152 rfl ?_
          refine gM_X12_sweeper ho0 fl_X12_231 dX12_sweep_153 ?_
          refine ag_aload_n dX12_sweep_156 rfl ?_
          refine gM_X12_tag ho0 fl_X12_25 dX12_sweep_157 ?_
          refine ag_sipush (v := 582) dX12_sweep_160 (by decide) ?_
          refine ag_chk (fun h107 => ?_)
          refine aM_29 (by decide) h107 dX12_sweep_163 ?_
          refine ag_jn1 (j := 182) (L1 := fun v108 => [some (.ref (bs + posM 10 o0)), some (.int v100), none, none, none]) (st1 := fun v108 => [.int (b2i v108), .int (p106 1061 o0 0), .ref (bs + posM 22 0)]) (ws1 := fun v108 => vwM cy bs p106) (fun v108 => ?_) (fun k109 hk110 => ?_)
          · refine ag_chk (fun h111 => ?_)
            refine sM_22 (x := v108) (by decide) h111 dX12_sweep_182 ?_
            refine ag_ltV (fun V112 => ?_)
            refine ag_aload_n dX12_sweep_183 rfl ?_
            refine ag_dup dX12_sweep_184 rfl ?_
            refine gM_X12_sweeper ho0 fl_X12_231 dX12_sweep_185 ?_
            refine ag_iconst (v := 1) dX12_sweep_188 (by decide) ?_
            refine ag_iadd dX12_sweep_189 ?_
            refine pM_X12_sweeper ho0 fl_X12_231 dX12_sweep_190 ?_
            refine ag_ltV (fun V113 => ?_)
            refine ag_iincL (L' := fun v114 => [some (.ref (bs + posM 10 o0)), some (.int v114), none, none, none]) dX12_sweep_193 (by decide) rfl (by decide) (fun _ => rfl) (fun v114 => ?_)
            refine ag_goto (tgt := 115) dX12_sweep_196 (by decide) ?_
            exact ih103 v114 V113
          · refine ag_jn0 (j := 181) (L1 := [some (.ref (bs + posM 10 o0)), some (.int v100), none, none, none]) (st1 := [.int (p106 1061 o0 0), .ref (bs + posM 22 0)]) (ws1 := vwM cy bs p106) (?_) (fun k115 hk116 => ?_)
            · refine ag_iconst (v := 0) dX12_sweep_181 (by decide) ?_
              exact hk110 false
            · refine ag_bif_eq (tgt := 181) dX12_sweep_164 (by decide) (fun h117 => ?_) (fun h117 => ?_)
              · exact hk116
              · refine ag_aload_n dX12_sweep_167 rfl ?_
                refine ag_sipush (v := 582) dX12_sweep_168 (by decide) ?_
                refine ag_bnd (fun p118 hp118 => ?_)
                refine ag_ivZp (c_X12_isGone o0 582 ho0 hp118) vwM_D (vwM_at (kpM_10 _ ho0)) rfl cs_X12_256 rfl rfl (Nat.le_of_ble_eq_true rfl) ⟨by decide, by decide⟩ ⟨Nat.zero_le _, Nat.zero_le _⟩ dX12_sweep_171 ?_
                refine ag_bif_ne (tgt := 181) dX12_sweep_174 (by decide) (fun h119 => ?_) (fun h119 => ?_)
                · exact hk116
                · refine ag_iconst (v := 1) dX12_sweep_177 (by decide) ?_
                  refine ag_goto (tgt := 182) dX12_sweep_178 (by decide) ?_
                  exact hk110 true
  · refine ag_iconst (v := 0) dX12_sweep_8 (by decide) ?_
    refine ag_istore_n (L' := [some (.ref (bs + posM 10 o0)), some (.int 0), none, none, none]) dX12_sweep_9 (by decide) rfl ?_
    refine ag_iconst (v := 0) dX12_sweep_10 (by decide) ?_
    refine ag_istore_n (L' := [some (.ref (bs + posM 10 o0)), some (.int 0), some (.int 0), none, none]) dX12_sweep_11 (by decide) rfl ?_
    refine ag_jn1 (j := 48) (L1 := fun v122 => [some (.ref (bs + posM 10 o0)), some (.int v122), none, none, none]) (st1 := fun v122 => []) (ws1 := fun v122 => vwM cy bs V) (fun v122 => ?_) (fun k120 hk121 => ?_)
    · refine ag_iload_n dX12_sweep_48 rfl ?_
      refine ag_jn1 (j := 107) (L1 := fun V123 => [some (.ref (bs + posM 10 o0)), some (.int v122), none, none, none]) (st1 := fun V123 => []) (ws1 := fun V123 => vwM cy bs V123) (fun V123 => ?_) (fun k124 hk125 => ?_)
      · refine ag_aload_n dX12_sweep_107 rfl ?_
        refine ag_iconst (v := 0) dX12_sweep_108 (by decide) ?_
        refine pM_X12_asked (x := false) ho0 fl_X12_228 dX12_sweep_109 ?_
        refine ag_ltV (fun V126 => ?_)
        exact ag_vrep dX12_sweep_112
      · refine ag_if_le (tgt := 107) dX12_sweep_49 (by decide) (fun h127 => ?_) (fun h127 => ?_)
        · exact hk125 V
        · refine ag_aload_n dX12_sweep_52 rfl ?_
          refine gM_X12_asked ho0 fl_X12_228 dX12_sweep_53 ?_
          refine ag_jn0 (j := 74) (L1 := [some (.ref (bs + posM 10 o0)), some (.int v122), none, none, none]) (st1 := []) (ws1 := vwM cy bs V) (?_) (fun k128 hk129 => ?_)
          · refine ag_aload_n dX12_sweep_74 rfl ?_
            refine ag_iconst (v := 0) dX12_sweep_75 (by decide) ?_
            refine pM_X12_sweeper ho0 fl_X12_231 dX12_sweep_76 ?_
            refine ag_ltV (fun V130 => ?_)
            refine ag_iconst (v := 0) dX12_sweep_79 (by decide) ?_
            refine ag_istore_n (L' := [some (.ref (bs + posM 10 o0)), some (.int v122), some (.int 0), none, none]) dX12_sweep_80 (by decide) rfl ?_
            refine ag_jn1 (j := 107) (L1 := fun V133 => [some (.ref (bs + posM 10 o0)), some (.int v122), none, none, none]) (st1 := fun V133 => []) (ws1 := fun V133 => vwM cy bs V133) (fun V133 => ?_) (fun k131 hk132 => ?_)
            · exact hk125 V133
            · refine ag_loop2 (F := f_X12_sweep_L81 o0 k131) (L1 := fun v134 V135 => [some (.ref (bs + posM 10 o0)), some (.int v122), some (.int v134), none, none]) (st1 := fun v134 V135 => []) (ws1 := fun v134 V135 => vwM cy bs V135) (fun n136 ih137 v134 V135 => ?_) (fun _ _ => rfl) FU 0 V130
              rw [f_X12_sweep_L81]
              refine ag_iload_n dX12_sweep_81 rfl ?_
              refine ag_aload_n dX12_sweep_82 rfl ?_
              refine gM_X12_objects ho0 fl_X12_225 dX12_sweep_83 ?_
              refine ag_icmp_ge (tgt := 107) dX12_sweep_86 (by decide) (fun h138 => ?_) (fun h138 => ?_)
              · refine ag_drop [2] (L' := [some (.ref (bs + posM 10 o0)), some (.int v122), none, none, none]) rfl ?_
                exact hk132 V135
              · refine ag_aload_n dX12_sweep_89 rfl ?_
                refine gM_X12_isSwept ho0 fl_X12_130 dX12_sweep_90 ?_
                refine ag_iload_n dX12_sweep_93 rfl ?_
                refine ag_aload_n dX12_sweep_94 rfl ?_
                refine gM_X12_isFreed ho0 fl_X12_127 dX12_sweep_95 ?_
                refine ag_iload_n dX12_sweep_98 rfl ?_
                refine ag_chk (fun h139 => ?_)
                refine aM_78 (by decide) h139 dX12_sweep_99 ?_
                refine ag_chk (fun h140 => ?_)
                refine sM_79 (x := (i2b (V135 7800 0 (v134).toNatClampNeg))) (by decide) h140 dX12_sweep_100 ?_
                refine ag_ltV (fun V141 => ?_)
                refine ag_iincL (L' := fun v142 => [some (.ref (bs + posM 10 o0)), some (.int v122), some (.int v142), none, none]) dX12_sweep_101 (by decide) rfl (by decide) (fun _ => rfl) (fun v142 => ?_)
                refine ag_goto (tgt := 81) dX12_sweep_104 (by decide) ?_
                exact ih137 v142 V141
          · refine ag_bif_ne (tgt := 74) dX12_sweep_56 (by decide) (fun h143 => ?_) (fun h143 => ?_)
            · exact hk129
            · refine ag_iconst (v := 4) dX12_sweep_59 (by decide) ?_
              refine ag_iload_n dX12_sweep_60 rfl ?_
              refine ag_imul dX12_sweep_61 ?_
              refine ag_aload_n dX12_sweep_62 rfl ?_
              refine gM_X12_size ho0 fl_X12_175 dX12_sweep_63 ?_
              refine ag_aload_n dX12_sweep_66 rfl ?_
              refine gM_X12_heapAt ho0 fl_X12_222 dX12_sweep_67 ?_
              refine ag_isub dX12_sweep_70 ?_
              refine ag_icmp_lt (tgt := 107) dX12_sweep_71 (by decide) (fun h144 => ?_) (fun h144 => ?_)
              · exact hk125 V
              · exact hk129
    · refine ag_loop2 (F := f_X12_sweep_L12 o0 V k120) (L1 := fun v145 v146 => [some (.ref (bs + posM 10 o0)), some (.int v145), some (.int v146), none, none]) (st1 := fun v145 v146 => []) (ws1 := fun v145 v146 => vwM cy bs V) (fun n147 ih148 v145 v146 => ?_) (fun _ _ => rfl) FU 0 0
      rw [f_X12_sweep_L12]
      refine ag_iload_n dX12_sweep_12 rfl ?_
      refine ag_aload_n dX12_sweep_13 rfl ?_
      refine gM_X12_objects ho0 fl_X12_225 dX12_sweep_14 ?_
      refine ag_icmp_ge (tgt := 48) dX12_sweep_17 (by decide) (fun h149 => ?_) (fun h149 => ?_)
      · refine ag_drop [2] (L' := [some (.ref (bs + posM 10 o0)), some (.int v145), none, none, none]) rfl ?_
        exact hk121 v145
      · refine ag_iload_n dX12_sweep_20 rfl ?_
        refine ag_aload_n dX12_sweep_21 rfl ?_
        refine gM_X12_isFreed ho0 fl_X12_127 dX12_sweep_22 ?_
        refine ag_iload_n dX12_sweep_25 rfl ?_
        refine ag_chk (fun h150 => ?_)
        refine aM_78 (by decide) h150 dX12_sweep_26 ?_
        refine ag_jn1 (j := 40) (L1 := fun v151 => [some (.ref (bs + posM 10 o0)), some (.int v145), some (.int v146), none, none]) (st1 := fun v151 => [.int v151, .int v145]) (ws1 := fun v151 => vwM cy bs V) (fun v151 => ?_) (fun k152 hk153 => ?_)
        · refine ag_iadd dX12_sweep_40 ?_
          refine ag_ltI (fun v154 => ?_)
          refine ag_istore_n (L' := [some (.ref (bs + posM 10 o0)), some (.int v154), some (.int v146), none, none]) dX12_sweep_41 (by decide) rfl ?_
          refine ag_iincL (L' := fun v155 => [some (.ref (bs + posM 10 o0)), some (.int v154), some (.int v155), none, none]) dX12_sweep_42 (by decide) rfl (by decide) (fun _ => rfl) (fun v155 => ?_)
          refine ag_goto (tgt := 12) dX12_sweep_45 (by decide) ?_
          exact ih148 v154 v155
        · refine ag_bif_eq (tgt := 39) dX12_sweep_27 (by decide) (fun h156 => ?_) (fun h156 => ?_)
          · refine ag_iconst (v := 0) dX12_sweep_39 (by decide) ?_
            exact hk153 0
          · refine ag_aload_n dX12_sweep_30 rfl ?_
            refine gM_X12_objectSize ho0 fl_X12_124 dX12_sweep_31 ?_
            refine ag_iload_n dX12_sweep_34 rfl ?_
            refine ag_chk (fun h157 => ?_)
            refine aM_77 (by decide) h157 dX12_sweep_35 ?_
            refine ag_goto (tgt := 40) dX12_sweep_36 (by decide) ?_
            exact hk153 (V 7700 0 (v146).toNatClampNeg)
set_option maxRecDepth 100000 in
set_option maxHeartbeats 4000000 in
theorem c_X12_areEnded {l : Launch} {D : va_G} {cy : Nat → ClassId} {bs : Nat} {V : HV} (o0 : Nat) (ho0 : o0 < 1) {z : Bool} (hz : f_X12_areEnded o0 V = some z) : CM l (aG 57 bs) D (tyL cy) (vwM cy bs) yX12_areEnded cX12_areEnded 3 (some .boolean) 0 0 tvZ [.ref (bs + posM 10 o0)] V (z, V) := by
  refine cm_of vwM_D (by decide +kernel) (own := RX12) rfl (Nat.le_of_ble_eq_true rfl) (L := [some (.ref (bs + posM 10 o0)), none, none]) rfl hz (fun Γ => ?_)
  unfold f_X12_areEnded
  refine ag_iconst (v := 1) dX12_areEnded_0 (by decide) ?_
  refine ag_istore_n (L' := [some (.ref (bs + posM 10 o0)), some (.int 1), none]) dX12_areEnded_1 (by decide) rfl ?_
  refine ag_iconst (v := 0) dX12_areEnded_2 (by decide) ?_
  refine ag_istore_n (L' := [some (.ref (bs + posM 10 o0)), some (.int 1), some (.int 0)]) dX12_areEnded_3 (by decide) rfl ?_
  refine ag_jn1 (j := 38) (L1 := fun v3 => [some (.ref (bs + posM 10 o0)), some (.int (b2i v3)), none]) (st1 := fun v3 => []) (ws1 := fun v3 => vwM cy bs V) (fun v3 => ?_) (fun k1 hk2 => ?_)
  · refine ag_iload_n dX12_areEnded_38 rfl ?_
    exact ag_zrpp (x := v3) dX12_areEnded_39
  · refine ag_loop2 (F := f_X12_areEnded_L4 o0 V k1) (L1 := fun v4 v5 => [some (.ref (bs + posM 10 o0)), some (.int (b2i v4)), some (.int v5)]) (st1 := fun v4 v5 => []) (ws1 := fun v4 v5 => vwM cy bs V) (fun n6 ih7 v4 v5 => ?_) (fun _ _ => rfl) FU true 0
    rw [f_X12_areEnded_L4]
    refine ag_iload_n dX12_areEnded_4 rfl ?_
    refine ag_aload_n dX12_areEnded_5 rfl ?_
    refine gM_X12_threads ho0 fl_X12_198 dX12_areEnded_6 ?_
    refine ag_icmp_ge (tgt := 38) dX12_areEnded_9 (by decide) (fun h8 => ?_) (fun h8 => ?_)
    · refine ag_drop [2] (L' := [some (.ref (bs + posM 10 o0)), some (.int (b2i v4)), none]) rfl ?_
      exact hk2 v4
    · refine ag_iload_n dX12_areEnded_12 rfl ?_
      refine ag_jn1 (j := 31) (L1 := fun v9 => [some (.ref (bs + posM 10 o0)), some (.int (b2i v4)), some (.int v5)]) (st1 := fun v9 => [.int (b2i v9)]) (ws1 := fun v9 => vwM cy bs V) (fun v9 => ?_) (fun k10 hk11 => ?_)
      · refine ag_istore_n (L' := [some (.ref (bs + posM 10 o0)), some (.int (b2i v9)), some (.int v5)]) dX12_areEnded_31 (by decide) rfl ?_
        refine ag_iincL (L' := fun v12 => [some (.ref (bs + posM 10 o0)), some (.int (b2i v9)), some (.int v12)]) dX12_areEnded_32 (by decide) rfl (by decide) (fun _ => rfl) (fun v12 => ?_)
        refine ag_goto (tgt := 4) dX12_areEnded_35 (by decide) ?_
        exact ih7 v9 v12
      · refine ag_jn0 (j := 30) (L1 := [some (.ref (bs + posM 10 o0)), some (.int (b2i v4)), some (.int v5)]) (st1 := []) (ws1 := vwM cy bs V) (?_) (fun k13 hk14 => ?_)
        · refine ag_iconst (v := 0) dX12_areEnded_30 (by decide) ?_
          exact hk11 false
        · refine ag_bif_eq (tgt := 30) dX12_areEnded_13 (by decide) (fun h15 => ?_) (fun h15 => ?_)
          · exact hk14
          · refine ag_aload_n dX12_areEnded_16 rfl ?_
            refine gM_X12_state ho0 fl_X12_61 dX12_areEnded_17 ?_
            refine ag_iload_n dX12_areEnded_20 rfl ?_
            refine ag_chk (fun h16 => ?_)
            refine aM_47 (by decide) h16 dX12_areEnded_21 ?_
            refine ag_iconst (v := 3) dX12_areEnded_22 (by decide) ?_
            refine ag_icmp_ne (tgt := 30) dX12_areEnded_23 (by decide) (fun h17 => ?_) (fun h17 => ?_)
            · exact hk14
            · refine ag_iconst (v := 1) dX12_areEnded_26 (by decide) ?_
              refine ag_goto (tgt := 31) dX12_areEnded_27 (by decide) ?_
              exact hk11 true
set_option maxRecDepth 100000 in
set_option maxHeartbeats 4000000 in
theorem c_X12_isAhead {l : Launch} {D : va_G} {cy : Nat → ClassId} {bs : Nat} {V : HV} (o0 : Nat) (x1 : Int32) (x2 : Int32) (ho0 : o0 < 1) {z : Bool} (hz : f_X12_isAhead o0 x1 x2 V = some z) : CM l (aG 57 bs) D (tyL cy) (vwM cy bs) yX12_isAhead cX12_isAhead 3 (some .boolean) 0 0 tvZ [.ref (bs + posM 10 o0), .int x1, .int x2] V (z, V) := by
  refine cm_of vwM_D (by decide +kernel) (own := RX12) rfl (Nat.le_of_ble_eq_true rfl) (L := [some (.ref (bs + posM 10 o0)), some (.int x1), some (.int x2)]) rfl hz (fun Γ => ?_)
  unfold f_X12_isAhead
  refine ag_iload_n dX12_isAhead_0 rfl ?_
  refine ag_iconst (v := (-1)) dX12_isAhead_1 (by decide) ?_
  refine ag_jn0 (j := 50) (L1 := [some (.ref (bs + posM 10 o0)), some (.int x1), some (.int x2)]) (st1 := []) (ws1 := vwM cy bs V) (?_) (fun k1 hk2 => ?_)
  · refine ag_iconst (v := 1) dX12_isAhead_50 (by decide) ?_
    refine ag_goto (tgt := 55) dX12_isAhead_51 (by decide) ?_
    exact ag_zrpp (x := true) dX12_isAhead_55
  · refine ag_icmp_eq (tgt := 50) dX12_isAhead_2 (by decide) (fun h3 => ?_) (fun h3 => ?_)
    · exact hk2
    · refine ag_aload_n dX12_isAhead_5 rfl ?_
      refine gM_X12_priority ho0 fl_X12_85 dX12_isAhead_6 ?_
      refine ag_iload_n dX12_isAhead_9 rfl ?_
      refine ag_chk (fun h4 => ?_)
      refine aM_55 (by decide) h4 dX12_isAhead_10 ?_
      refine ag_aload_n dX12_isAhead_11 rfl ?_
      refine gM_X12_priority ho0 fl_X12_85 dX12_isAhead_12 ?_
      refine ag_iload_n dX12_isAhead_15 rfl ?_
      refine ag_chk (fun h5 => ?_)
      refine aM_55 (by decide) h5 dX12_isAhead_16 ?_
      refine ag_icmp_gt (tgt := 50) dX12_isAhead_17 (by decide) (fun h6 => ?_) (fun h6 => ?_)
      · exact hk2
      · refine ag_aload_n dX12_isAhead_20 rfl ?_
        refine gM_X12_priority ho0 fl_X12_85 dX12_isAhead_21 ?_
        refine ag_iload_n dX12_isAhead_24 rfl ?_
        refine ag_chk (fun h7 => ?_)
        refine aM_55 (by decide) h7 dX12_isAhead_25 ?_
        refine ag_aload_n dX12_isAhead_26 rfl ?_
        refine gM_X12_priority ho0 fl_X12_85 dX12_isAhead_27 ?_
        refine ag_iload_n dX12_isAhead_30 rfl ?_
        refine ag_chk (fun h8 => ?_)
        refine aM_55 (by decide) h8 dX12_isAhead_31 ?_
        refine ag_icmp_ne (tgt := 54) dX12_isAhead_32 (by decide) (fun h9 => ?_) (fun h9 => ?_)
        · refine ag_iconst (v := 0) dX12_isAhead_54 (by decide) ?_
          exact ag_zrpp (x := false) dX12_isAhead_55
        · refine ag_aload_n dX12_isAhead_35 rfl ?_
          refine gM_X12_became ho0 fl_X12_97 dX12_isAhead_36 ?_
          refine ag_iload_n dX12_isAhead_39 rfl ?_
          refine ag_chk (fun h10 => ?_)
          refine aM_59 (by decide) h10 dX12_isAhead_40 ?_
          refine ag_aload_n dX12_isAhead_41 rfl ?_
          refine gM_X12_became ho0 fl_X12_97 dX12_isAhead_42 ?_
          refine ag_iload_n dX12_isAhead_45 rfl ?_
          refine ag_chk (fun h11 => ?_)
          refine aM_59 (by decide) h11 dX12_isAhead_46 ?_
          refine ag_icmp_ge (tgt := 54) dX12_isAhead_47 (by decide) (fun h12 => ?_) (fun h12 => ?_)
          · refine ag_iconst (v := 0) dX12_isAhead_54 (by decide) ?_
            exact ag_zrpp (x := false) dX12_isAhead_55
          · exact hk2
set_option maxRecDepth 100000 in
set_option maxHeartbeats 4000000 in
theorem c_X12_chooses {l : Launch} {D : va_G} {cy : Nat → ClassId} {bs : Nat} {V : HV} (o0 : Nat) (ho0 : o0 < 1) {z : HV} (hz : f_X12_chooses o0 V = some z) : CM l (aG 57 bs) D (tyL cy) (vwM cy bs) yX12_chooses cX12_chooses 5 none 2 42 tvV [.ref (bs + posM 10 o0)] V ((), z) := by
  refine cm_of vwM_D (by decide +kernel) (own := RX12) rfl (Nat.le_of_ble_eq_true rfl) (L := [some (.ref (bs + posM 10 o0)), none, none, none, none]) rfl hz (fun Γ => ?_)
  unfold f_X12_chooses
  refine ag_aload_n dX12_chooses_0 rfl ?_
  refine gM_X12_current ho0 fl_X12_204 dX12_chooses_1 ?_
  refine ag_iconst (v := (-1)) dX12_chooses_4 (by decide) ?_
  refine ag_jn1 (j := 25) (L1 := fun v1 => [some (.ref (bs + posM 10 o0)), none, none, none, none]) (st1 := fun v1 => [.int (b2i v1)]) (ws1 := fun v1 => vwM cy bs V) (fun v1 => ?_) (fun k2 hk3 => ?_)
  · refine ag_istore_n (L' := [some (.ref (bs + posM 10 o0)), some (.int (b2i v1)), none, none, none]) dX12_chooses_25 (by decide) rfl ?_
    refine ag_iconst (v := 0) dX12_chooses_26 (by decide) ?_
    refine ag_istore_n (L' := [some (.ref (bs + posM 10 o0)), some (.int (b2i v1)), some (.int 0), none, none]) dX12_chooses_27 (by decide) rfl ?_
    refine ag_jn1 (j := 153) (L1 := fun v6 => [some (.ref (bs + posM 10 o0)), some (.int (b2i v6)), none, none, none]) (st1 := fun v6 => []) (ws1 := fun v6 => vwM cy bs V) (fun v6 => ?_) (fun k4 hk5 => ?_)
    · refine ag_iload_n dX12_chooses_153 rfl ?_
      refine ag_bif_eq (tgt := 158) dX12_chooses_154 (by decide) (fun h7 => ?_) (fun h7 => ?_)
      · refine ag_iconst (v := (-1)) dX12_chooses_158 (by decide) ?_
        refine ag_istore_n (L' := [some (.ref (bs + posM 10 o0)), some (.int (b2i v6)), some (.int (-1)), none, none]) dX12_chooses_159 (by decide) rfl ?_
        refine ag_iconst (v := 0) dX12_chooses_160 (by decide) ?_
        refine ag_istore_n (L' := [some (.ref (bs + posM 10 o0)), some (.int (b2i v6)), some (.int (-1)), some (.int 0), none]) dX12_chooses_161 (by decide) rfl ?_
        refine ag_jn1 (j := 196) (L1 := fun v10 => [some (.ref (bs + posM 10 o0)), some (.int (b2i v6)), some (.int v10), none, none]) (st1 := fun v10 => []) (ws1 := fun v10 => vwM cy bs V) (fun v10 => ?_) (fun k8 hk9 => ?_)
        · refine ag_iload_n dX12_chooses_196 rfl ?_
          refine ag_iconst (v := (-1)) dX12_chooses_197 (by decide) ?_
          refine ag_icmp_ne (tgt := 207) dX12_chooses_198 (by decide) (fun h11 => ?_) (fun h11 => ?_)
          · refine ag_iload_n dX12_chooses_207 rfl ?_
            refine ag_aload_n dX12_chooses_208 rfl ?_
            refine gM_X12_current ho0 fl_X12_204 dX12_chooses_209 ?_
            refine ag_jn1 (j := 225) (L1 := fun V12 => [some (.ref (bs + posM 10 o0)), some (.int (b2i v6)), some (.int v10), none, none]) (st1 := fun V12 => []) (ws1 := fun V12 => vwM cy bs V12) (fun V12 => ?_) (fun k13 hk14 => ?_)
            · refine ag_aload_n dX12_chooses_225 rfl ?_
              refine ag_iload_n dX12_chooses_226 rfl ?_
              refine pM_X12_current ho0 fl_X12_204 dX12_chooses_227 ?_
              refine ag_ltV (fun V15 => ?_)
              refine ag_aload_n dX12_chooses_230 rfl ?_
              refine gM_X12_became ho0 fl_X12_97 dX12_chooses_231 ?_
              refine ag_iload_n dX12_chooses_234 rfl ?_
              refine ag_aload_n dX12_chooses_235 rfl ?_
              refine gM_X12_time ho0 fl_X12_201 dX12_chooses_236 ?_
              refine ag_chk (fun h16 => ?_)
              refine sM_59 (by decide) h16 dX12_chooses_239 ?_
              refine ag_ltV (fun V17 => ?_)
              refine ag_aload_n dX12_chooses_240 rfl ?_
              refine gM_X12_began ho0 fl_X12_100 dX12_chooses_241 ?_
              refine ag_iload_n dX12_chooses_244 rfl ?_
              refine ag_iconst (v := 0) dX12_chooses_245 (by decide) ?_
              refine ag_chk (fun h18 => ?_)
              refine sM_60 (by decide) h18 dX12_chooses_246 ?_
              refine ag_ltV (fun V19 => ?_)
              refine ag_iconst (v := 0) dX12_chooses_247 (by decide) ?_
              refine ag_istore_n (L' := [some (.ref (bs + posM 10 o0)), some (.int (b2i v6)), some (.int v10), some (.int 0), none]) dX12_chooses_248 (by decide) rfl ?_
              refine ag_jn1 (j := 270) (L1 := fun V22 => [some (.ref (bs + posM 10 o0)), some (.int (b2i v6)), some (.int v10), none, none]) (st1 := fun V22 => []) (ws1 := fun V22 => vwM cy bs V22) (fun V22 => ?_) (fun k20 hk21 => ?_)
              · exact ag_vrep dX12_chooses_270
              · refine ag_loop2 (F := f_X12_chooses_L249 o0 v10 k20) (L1 := fun v23 V24 => [some (.ref (bs + posM 10 o0)), some (.int (b2i v6)), some (.int v10), some (.int v23), none]) (st1 := fun v23 V24 => []) (ws1 := fun v23 V24 => vwM cy bs V24) (fun n25 ih26 v23 V24 => ?_) (fun _ _ => rfl) FU 0 V19
                rw [f_X12_chooses_L249]
                refine ag_iload_n dX12_chooses_249 rfl ?_
                refine ag_bipush (v := 16) dX12_chooses_250 (by decide) ?_
                refine ag_icmp_gt (tgt := 270) dX12_chooses_252 (by decide) (fun h27 => ?_) (fun h27 => ?_)
                · refine ag_drop [3] (L' := [some (.ref (bs + posM 10 o0)), some (.int (b2i v6)), some (.int v10), none, none]) rfl ?_
                  exact hk21 V24
                · refine ag_aload_n dX12_chooses_255 rfl ?_
                  refine ag_iload_n dX12_chooses_256 rfl ?_
                  refine ag_iload_n dX12_chooses_257 rfl ?_
                  refine ag_isIp (c_X12_reg v10 v23  rfl) vwM_D cs_X12_307 rfl rfl (Nat.le_of_ble_eq_true rfl) ⟨by decide, by decide⟩ ⟨Nat.zero_le _, Nat.zero_le _⟩ dX12_chooses_258 ?_
                  refine ag_ltI (fun v28 => ?_)
                  refine ag_bnd (fun p29 hp29 => ?_)
                  refine ag_ivVe (c_X12_filter o0 v28 ho0 hp29) vwM_D (vwM_at (kpM_10 _ ho0)) rfl cs_X12_417 rfl rfl (Nat.le_of_ble_eq_true rfl) ⟨by decide, by decide⟩ ⟨Nat.zero_le _, Nat.zero_le _⟩ dX12_chooses_261 ?_
                  refine ag_iincL (L' := fun v30 => [some (.ref (bs + posM 10 o0)), some (.int (b2i v6)), some (.int v10), some (.int v30), none]) dX12_chooses_264 (by decide) rfl (by decide) (fun _ => rfl) (fun v30 => ?_)
                  refine ag_goto (tgt := 249) dX12_chooses_267 (by decide) ?_
                  exact ih26 v30 p29
            · refine ag_icmp_eq (tgt := 225) dX12_chooses_212 (by decide) (fun h31 => ?_) (fun h31 => ?_)
              · exact hk14 V
              · refine ag_aload_n dX12_chooses_215 rfl ?_
                refine ag_dup dX12_chooses_216 rfl ?_
                refine gM_X12_turns ho0 fl_X12_216 dX12_chooses_217 ?_
                refine ag_iconst (v := 1) dX12_chooses_220 (by decide) ?_
                refine ag_iadd dX12_chooses_221 ?_
                refine pM_X12_turns ho0 fl_X12_216 dX12_chooses_222 ?_
                refine ag_ltV (fun V32 => ?_)
                exact hk14 V32
          · refine ag_aload_n dX12_chooses_201 rfl ?_
            refine ag_iconst (v := (-1)) dX12_chooses_202 (by decide) ?_
            refine pM_X12_current ho0 fl_X12_204 dX12_chooses_203 ?_
            refine ag_ltV (fun V33 => ?_)
            exact ag_vrep dX12_chooses_206
        · refine ag_loop2 (F := f_X12_chooses_L162 o0 V k8) (L1 := fun v34 v35 => [some (.ref (bs + posM 10 o0)), some (.int (b2i v6)), some (.int v34), some (.int v35), none]) (st1 := fun v34 v35 => []) (ws1 := fun v34 v35 => vwM cy bs V) (fun n36 ih37 v34 v35 => ?_) (fun _ _ => rfl) FU (-1) 0
          rw [f_X12_chooses_L162]
          refine ag_iload_n dX12_chooses_162 rfl ?_
          refine ag_aload_n dX12_chooses_163 rfl ?_
          refine gM_X12_threads ho0 fl_X12_198 dX12_chooses_164 ?_
          refine ag_icmp_ge (tgt := 196) dX12_chooses_167 (by decide) (fun h38 => ?_) (fun h38 => ?_)
          · refine ag_drop [3] (L' := [some (.ref (bs + posM 10 o0)), some (.int (b2i v6)), some (.int v34), none, none]) rfl ?_
            exact hk9 v34
          · refine ag_aload_n dX12_chooses_170 rfl ?_
            refine gM_X12_state ho0 fl_X12_61 dX12_chooses_171 ?_
            refine ag_iload_n dX12_chooses_174 rfl ?_
            refine ag_chk (fun h39 => ?_)
            refine aM_47 (by decide) h39 dX12_chooses_175 ?_
            refine ag_jn1 (j := 190) (L1 := fun v40 => [some (.ref (bs + posM 10 o0)), some (.int (b2i v6)), some (.int v40), some (.int v35), none]) (st1 := fun v40 => []) (ws1 := fun v40 => vwM cy bs V) (fun v40 => ?_) (fun k41 hk42 => ?_)
            · refine ag_iincL (L' := fun v43 => [some (.ref (bs + posM 10 o0)), some (.int (b2i v6)), some (.int v40), some (.int v43), none]) dX12_chooses_190 (by decide) rfl (by decide) (fun _ => rfl) (fun v43 => ?_)
              refine ag_goto (tgt := 162) dX12_chooses_193 (by decide) ?_
              exact ih37 v40 v43
            · refine ag_if_ne (tgt := 190) dX12_chooses_176 (by decide) (fun h44 => ?_) (fun h44 => ?_)
              · exact hk42 v34
              · refine ag_aload_n dX12_chooses_179 rfl ?_
                refine ag_iload_n dX12_chooses_180 rfl ?_
                refine ag_iload_n dX12_chooses_181 rfl ?_
                refine ag_bnd (fun p45 hp45 => ?_)
                refine ag_ivZp (c_X12_isAhead o0 v35 v34 ho0 hp45) vwM_D (vwM_at (kpM_10 _ ho0)) rfl cs_X12_503 rfl rfl (Nat.le_of_ble_eq_true rfl) ⟨by decide, by decide⟩ ⟨Nat.zero_le _, Nat.zero_le _⟩ dX12_chooses_182 ?_
                refine ag_bif_eq (tgt := 190) dX12_chooses_185 (by decide) (fun h46 => ?_) (fun h46 => ?_)
                · exact hk42 v34
                · refine ag_iload_n dX12_chooses_188 rfl ?_
                  refine ag_istore_n (L' := [some (.ref (bs + posM 10 o0)), some (.int (b2i v6)), some (.int v35), some (.int v35), none]) dX12_chooses_189 (by decide) rfl ?_
                  exact hk42 v35
      · exact ag_vrep dX12_chooses_157
    · refine ag_loop2 (F := f_X12_chooses_L28 o0 V k4) (L1 := fun v47 v48 => [some (.ref (bs + posM 10 o0)), some (.int (b2i v47)), some (.int v48), none, none]) (st1 := fun v47 v48 => []) (ws1 := fun v47 v48 => vwM cy bs V) (fun n49 ih50 v47 v48 => ?_) (fun _ _ => rfl) FU v1 0
      rw [f_X12_chooses_L28]
      refine ag_iload_n dX12_chooses_28 rfl ?_
      refine ag_aload_n dX12_chooses_29 rfl ?_
      refine gM_X12_threads ho0 fl_X12_198 dX12_chooses_30 ?_
      refine ag_icmp_ge (tgt := 153) dX12_chooses_33 (by decide) (fun h51 => ?_) (fun h51 => ?_)
      · refine ag_drop [2] (L' := [some (.ref (bs + posM 10 o0)), some (.int (b2i v47)), none, none, none]) rfl ?_
        exact hk5 v47
      · refine ag_iload_n dX12_chooses_36 rfl ?_
        refine ag_bif_eq (tgt := 153) dX12_chooses_37 (by decide) (fun h52 => ?_) (fun h52 => ?_)
        · refine ag_drop [2] (L' := [some (.ref (bs + posM 10 o0)), some (.int (b2i v47)), none, none, none]) rfl ?_
          exact hk5 v47
        · refine ag_iload_n dX12_chooses_40 rfl ?_
          refine ag_aload_n dX12_chooses_41 rfl ?_
          refine gM_X12_current ho0 fl_X12_204 dX12_chooses_42 ?_
          refine ag_jn1 (j := 62) (L1 := fun v53 => [some (.ref (bs + posM 10 o0)), some (.int (b2i v47)), some (.int v48), none, none]) (st1 := fun v53 => [.int (b2i v53)]) (ws1 := fun v53 => vwM cy bs V) (fun v53 => ?_) (fun k54 hk55 => ?_)
          · refine ag_istore_n (L' := [some (.ref (bs + posM 10 o0)), some (.int (b2i v47)), some (.int v48), some (.int (b2i v53)), none]) dX12_chooses_62 (by decide) rfl ?_
            refine ag_iload_n dX12_chooses_63 rfl ?_
            refine ag_jn1 (j := 134) (L1 := fun v56 => [some (.ref (bs + posM 10 o0)), some (.int (b2i v47)), some (.int v48), some (.int (b2i v53)), none]) (st1 := fun v56 => [.int (b2i v56)]) (ws1 := fun v56 => vwM cy bs V) (fun v56 => ?_) (fun k57 hk58 => ?_)
            · refine ag_istore (L' := [some (.ref (bs + posM 10 o0)), some (.int (b2i v47)), some (.int v48), some (.int (b2i v53)), some (.int (b2i v56))]) dX12_chooses_134 (by decide) rfl ?_
              refine ag_iload dX12_chooses_136 rfl ?_
              refine ag_dv (j := 146) (L1 := fun _ => [some (.ref (bs + posM 10 o0)), some (.int (b2i v47)), some (.int v48), some (.int (b2i v53)), some (.int (b2i v56))]) (st1 := fun v59 => [.int (b2i v59)]) (ws1 := fun _ => vwM cy bs V) (fun v59 => ?_) (fun k62 hk60 => ?_)
              · refine ag_istore_n (L' := [some (.ref (bs + posM 10 o0)), some (.int (b2i v59)), some (.int v48), some (.int (b2i v53)), some (.int (b2i v56))]) dX12_chooses_146 (by decide) rfl ?_
                refine ag_iincL (L' := fun v61 => [some (.ref (bs + posM 10 o0)), some (.int (b2i v59)), some (.int v61), some (.int (b2i v53)), some (.int (b2i v56))]) dX12_chooses_147 (by decide) rfl (by decide) (fun _ => rfl) (fun v61 => ?_)
                refine ag_goto (tgt := 28) dX12_chooses_150 (by decide) ?_
                refine ag_drop [3, 4] (L' := [some (.ref (bs + posM 10 o0)), some (.int (b2i v59)), some (.int v61), none, none]) rfl ?_
                exact ih50 v59 v61
              · refine ag_bif_ne_v (tgt := 145) dX12_chooses_138 (by decide) (fun h63 => ?_) (fun h63 => ?_)
                · refine ag_iconst (v := 0) dX12_chooses_145 (by decide) ?_
                  exact hk60 false
                · refine ag_iconst (v := 1) dX12_chooses_141 (by decide) ?_
                  refine ag_goto (tgt := 146) dX12_chooses_142 (by decide) ?_
                  exact hk60 true
            · refine ag_jn0 (j := 133) (L1 := [some (.ref (bs + posM 10 o0)), some (.int (b2i v47)), some (.int v48), some (.int (b2i v53)), none]) (st1 := []) (ws1 := vwM cy bs V) (?_) (fun k64 hk65 => ?_)
              · refine ag_iconst (v := 0) dX12_chooses_133 (by decide) ?_
                exact hk58 false
              · refine ag_bif_eq (tgt := 133) dX12_chooses_64 (by decide) (fun h66 => ?_) (fun h66 => ?_)
                · exact hk65
                · refine ag_aload_n dX12_chooses_67 rfl ?_
                  refine gM_X12_on ho0 fl_X12_76 dX12_chooses_68 ?_
                  refine ag_aload_n dX12_chooses_71 rfl ?_
                  refine gM_X12_current ho0 fl_X12_204 dX12_chooses_72 ?_
                  refine ag_chk (fun h67 => ?_)
                  refine aM_52 (by decide) h67 dX12_chooses_75 ?_
                  refine ag_bif_eq (tgt := 133) dX12_chooses_76 (by decide) (fun h68 => ?_) (fun h68 => ?_)
                  · exact hk65
                  · refine ag_aload_n dX12_chooses_79 rfl ?_
                    refine gM_X12_priority ho0 fl_X12_85 dX12_chooses_80 ?_
                    refine ag_iload_n dX12_chooses_83 rfl ?_
                    refine ag_chk (fun h69 => ?_)
                    refine aM_55 (by decide) h69 dX12_chooses_84 ?_
                    refine ag_aload_n dX12_chooses_85 rfl ?_
                    refine gM_X12_priority ho0 fl_X12_85 dX12_chooses_86 ?_
                    refine ag_aload_n dX12_chooses_89 rfl ?_
                    refine gM_X12_current ho0 fl_X12_204 dX12_chooses_90 ?_
                    refine ag_chk (fun h70 => ?_)
                    refine aM_55 (by decide) h70 dX12_chooses_93 ?_
                    refine ag_jn0 (j := 129) (L1 := [some (.ref (bs + posM 10 o0)), some (.int (b2i v47)), some (.int v48), some (.int (b2i v53)), none]) (st1 := []) (ws1 := vwM cy bs V) (?_) (fun k71 hk72 => ?_)
                    · refine ag_iconst (v := 1) dX12_chooses_129 (by decide) ?_
                      refine ag_goto (tgt := 134) dX12_chooses_130 (by decide) ?_
                      exact hk58 true
                    · refine ag_icmp_gt (tgt := 129) dX12_chooses_94 (by decide) (fun h73 => ?_) (fun h73 => ?_)
                      · exact hk72
                      · refine ag_aload_n dX12_chooses_97 rfl ?_
                        refine gM_X12_priority ho0 fl_X12_85 dX12_chooses_98 ?_
                        refine ag_iload_n dX12_chooses_101 rfl ?_
                        refine ag_chk (fun h74 => ?_)
                        refine aM_55 (by decide) h74 dX12_chooses_102 ?_
                        refine ag_aload_n dX12_chooses_103 rfl ?_
                        refine gM_X12_priority ho0 fl_X12_85 dX12_chooses_104 ?_
                        refine ag_aload_n dX12_chooses_107 rfl ?_
                        refine gM_X12_current ho0 fl_X12_204 dX12_chooses_108 ?_
                        refine ag_chk (fun h75 => ?_)
                        refine aM_55 (by decide) h75 dX12_chooses_111 ?_
                        refine ag_icmp_ne (tgt := 133) dX12_chooses_112 (by decide) (fun h76 => ?_) (fun h76 => ?_)
                        · exact hk65
                        · refine ag_aload_n dX12_chooses_115 rfl ?_
                          refine gM_X12_began ho0 fl_X12_100 dX12_chooses_116 ?_
                          refine ag_aload_n dX12_chooses_119 rfl ?_
                          refine gM_X12_current ho0 fl_X12_204 dX12_chooses_120 ?_
                          refine ag_chk (fun h77 => ?_)
                          refine aM_60 (by decide) h77 dX12_chooses_123 ?_
                          refine ag_bipush (v := 50) dX12_chooses_124 (by decide) ?_
                          refine ag_icmp_lt (tgt := 133) dX12_chooses_126 (by decide) (fun h78 => ?_) (fun h78 => ?_)
                          · exact hk65
                          · exact hk72
          · refine ag_jn0 (j := 61) (L1 := [some (.ref (bs + posM 10 o0)), some (.int (b2i v47)), some (.int v48), none, none]) (st1 := []) (ws1 := vwM cy bs V) (?_) (fun k79 hk80 => ?_)
            · refine ag_iconst (v := 0) dX12_chooses_61 (by decide) ?_
              exact hk55 false
            · refine ag_icmp_eq (tgt := 61) dX12_chooses_45 (by decide) (fun h81 => ?_) (fun h81 => ?_)
              · exact hk80
              · refine ag_aload_n dX12_chooses_48 rfl ?_
                refine gM_X12_state ho0 fl_X12_61 dX12_chooses_49 ?_
                refine ag_iload_n dX12_chooses_52 rfl ?_
                refine ag_chk (fun h82 => ?_)
                refine aM_47 (by decide) h82 dX12_chooses_53 ?_
                refine ag_if_ne (tgt := 61) dX12_chooses_54 (by decide) (fun h83 => ?_) (fun h83 => ?_)
                · exact hk80
                · refine ag_iconst (v := 1) dX12_chooses_57 (by decide) ?_
                  refine ag_goto (tgt := 62) dX12_chooses_58 (by decide) ?_
                  exact hk55 true
  · refine ag_jn0 (j := 24) (L1 := [some (.ref (bs + posM 10 o0)), none, none, none, none]) (st1 := []) (ws1 := vwM cy bs V) (?_) (fun k84 hk85 => ?_)
    · refine ag_iconst (v := 0) dX12_chooses_24 (by decide) ?_
      exact hk3 false
    · refine ag_icmp_eq (tgt := 24) dX12_chooses_5 (by decide) (fun h86 => ?_) (fun h86 => ?_)
      · exact hk85
      · refine ag_aload_n dX12_chooses_8 rfl ?_
        refine gM_X12_state ho0 fl_X12_61 dX12_chooses_9 ?_
        refine ag_aload_n dX12_chooses_12 rfl ?_
        refine gM_X12_current ho0 fl_X12_204 dX12_chooses_13 ?_
        refine ag_chk (fun h87 => ?_)
        refine aM_47 (by decide) h87 dX12_chooses_16 ?_
        refine ag_if_ne (tgt := 24) dX12_chooses_17 (by decide) (fun h88 => ?_) (fun h88 => ?_)
        · exact hk85
        · refine ag_iconst (v := 1) dX12_chooses_20 (by decide) ?_
          refine ag_goto (tgt := 25) dX12_chooses_21 (by decide) ?_
          exact hk3 true
set_option maxRecDepth 100000 in
set_option maxHeartbeats 4000000 in
theorem c_X12_step {l : Launch} {D : va_G} {cy : Nat → ClassId} {bs : Nat} {V : HV} (o0 : Nat) (ho0 : o0 < 1) {z : HV} (hz : f_X12_step o0 V = some z) : CM l (aG 57 bs) D (tyL cy) (vwM cy bs) yX12_step cX12_step 3 none 8 191 tvV [.ref (bs + posM 10 o0)] V ((), z) := by
  refine cm_of vwM_D (by decide +kernel) (own := RX12) rfl (Nat.le_of_ble_eq_true rfl) (L := [some (.ref (bs + posM 10 o0)), none, none]) rfl hz (fun Γ => ?_)
  unfold f_X12_step
  refine ag_aload_n dX12_step_0 rfl ?_
  refine ag_dup dX12_step_1 rfl ?_
  refine gM_X12_time ho0 fl_X12_201 dX12_step_2 ?_
  refine ag_iconst (v := 1) dX12_step_5 (by decide) ?_
  refine ag_iadd dX12_step_6 ?_
  refine pM_X12_time ho0 fl_X12_201 dX12_step_7 ?_
  refine ag_ltV (fun V1 => ?_)
  refine ag_iconst (v := 0) dX12_step_10 (by decide) ?_
  refine ag_istore_n (L' := [some (.ref (bs + posM 10 o0)), some (.int 0), none]) dX12_step_11 (by decide) rfl ?_
  refine ag_jn1 (j := 96) (L1 := fun V4 => [some (.ref (bs + posM 10 o0)), none, none]) (st1 := fun V4 => []) (ws1 := fun V4 => vwM cy bs V4) (fun V4 => ?_) (fun k2 hk3 => ?_)
  · refine ag_aload_n dX12_step_96 rfl ?_
    refine ag_bnd (fun p5 hp5 => ?_)
    refine ag_ivVe (c_X12_chooses o0 ho0 hp5) vwM_D (vwM_at (kpM_10 _ ho0)) rfl cs_X12_506 rfl rfl (Nat.le_of_ble_eq_true rfl) ⟨by decide, by decide⟩ ⟨Nat.zero_le _, Nat.zero_le _⟩ dX12_step_97 ?_
    refine ag_aload_n dX12_step_100 rfl ?_
    refine gM_X12_current ho0 fl_X12_204 dX12_step_101 ?_
    refine ag_iconst (v := (-1)) dX12_step_104 (by decide) ?_
    refine ag_jn1 (j := 228) (L1 := fun V6 => [some (.ref (bs + posM 10 o0)), none, none]) (st1 := fun V6 => []) (ws1 := fun V6 => vwM cy bs V6) (fun V6 => ?_) (fun k7 hk8 => ?_)
    · refine ag_aload_n dX12_step_228 rfl ?_
      refine ag_bnd (fun p9 hp9 => ?_)
      refine ag_ivVe (c_X12_sweep o0 ho0 hp9) vwM_D (vwM_at (kpM_10 _ ho0)) rfl cs_X12_512 rfl rfl (Nat.le_of_ble_eq_true rfl) ⟨by decide, by decide⟩ ⟨Nat.zero_le _, Nat.zero_le _⟩ dX12_step_229 ?_
      exact ag_vrep dX12_step_232
    · refine ag_icmp_eq (tgt := 228) dX12_step_105 (by decide) (fun h10 => ?_) (fun h10 => ?_)
      · exact hk8 p5
      · refine ag_aload_n dX12_step_108 rfl ?_
        refine ag_aload_n dX12_step_109 rfl ?_
        refine gM_X12_current ho0 fl_X12_204 dX12_step_110 ?_
        refine pM_X12_t0 ho0 fl_X12_330 dX12_step_113 ?_
        refine ag_ltV (fun V11 => ?_)
        refine ag_aload_n dX12_step_116 rfl ?_
        refine gM_X12_began ho0 fl_X12_100 dX12_step_117 ?_
        refine ag_aload_n dX12_step_120 rfl ?_
        refine gM_X12_t0 ho0 fl_X12_330 dX12_step_121 ?_
        refine ag_dup2 dX12_step_124 rfl rfl ?_
        refine ag_chk (fun h12 => ?_)
        refine aM_60 (by decide) h12 dX12_step_125 ?_
        refine ag_iconst (v := 1) dX12_step_126 (by decide) ?_
        refine ag_iadd dX12_step_127 ?_
        refine ag_chk (fun h13 => ?_)
        refine sM_60 (by decide) h13 dX12_step_128 ?_
        refine ag_ltV (fun V14 => ?_)
        refine ag_aload_n dX12_step_129 rfl ?_
        refine ag_bnd (fun p15 hp15 => ?_)
        refine ag_ivIe (c_X12_does o0 ho0 hp15) vwM_D (vwM_at (kpM_10 _ ho0)) rfl cs_X12_509 rfl rfl (Nat.le_of_ble_eq_true rfl) ⟨by decide, by decide⟩ ⟨Nat.zero_le _, Nat.zero_le _⟩ dX12_step_130 ?_
        refine ag_ltI (fun v16 => ?_)
        refine ag_istore_n (L' := [some (.ref (bs + posM 10 o0)), some (.int v16), none]) dX12_step_133 (by decide) rfl ?_
        refine ag_iload_n dX12_step_134 rfl ?_
        refine ag_if_ne (tgt := 154) dX12_step_135 (by decide) (fun h17 => ?_) (fun h17 => ?_)
        · refine ag_aload_n dX12_step_154 rfl ?_
          refine ag_dup dX12_step_155 rfl ?_
          refine gM_X12_faults ho0 fl_X12_207 dX12_step_156 ?_
          refine ag_iconst (v := 1) dX12_step_159 (by decide) ?_
          refine ag_iadd dX12_step_160 ?_
          refine pM_X12_faults ho0 fl_X12_207 dX12_step_161 ?_
          refine ag_ltV (fun V18 => ?_)
          refine ag_aload_n dX12_step_164 rfl ?_
          refine gM_X12_lastFault ho0 fl_X12_79 dX12_step_165 ?_
          refine ag_aload_n dX12_step_168 rfl ?_
          refine gM_X12_t0 ho0 fl_X12_330 dX12_step_169 ?_
          refine ag_iload_n dX12_step_172 rfl ?_
          refine ag_chk (fun h19 => ?_)
          refine sM_53 (by decide) h19 dX12_step_173 ?_
          refine ag_ltV (fun V20 => ?_)
          refine ag_aload_n dX12_step_174 rfl ?_
          refine gM_X12_depth ho0 fl_X12_70 dX12_step_175 ?_
          refine ag_aload_n dX12_step_178 rfl ?_
          refine gM_X12_t0 ho0 fl_X12_330 dX12_step_179 ?_
          refine ag_chk (fun h21 => ?_)
          refine aM_50 (by decide) h21 dX12_step_182 ?_
          refine ag_dv (j := 191) (L1 := fun _ => [some (.ref (bs + posM 10 o0)), some (.int v16), none]) (st1 := fun v22 => [.int (b2i v22)]) (ws1 := fun _ => vwM cy bs V20) (fun v22 => ?_) (fun k30 hk23 => ?_)
          · refine ag_istore_n (L' := [some (.ref (bs + posM 10 o0)), some (.int v16), some (.int (b2i v22))]) dX12_step_191 (by decide) rfl ?_
            refine ag_aload_n dX12_step_192 rfl ?_
            refine ag_bnd (fun p24 hp24 => ?_)
            refine ag_ivVe (c_X12_returns o0 ho0 hp24) vwM_D (vwM_at (kpM_10 _ ho0)) rfl cs_X12_450 rfl rfl (Nat.le_of_ble_eq_true rfl) ⟨by decide, by decide⟩ ⟨Nat.zero_le _, Nat.zero_le _⟩ dX12_step_193 ?_
            refine ag_iload_n dX12_step_196 rfl ?_
            refine ag_bif_eq (tgt := 228) dX12_step_197 (by decide) (fun h25 => ?_) (fun h25 => ?_)
            · refine ag_drop [1, 2] (L' := [some (.ref (bs + posM 10 o0)), none, none]) rfl ?_
              exact hk8 p24
            · refine ag_aload_n dX12_step_200 rfl ?_
              refine ag_aload_n dX12_step_201 rfl ?_
              refine gM_X12_t0 ho0 fl_X12_330 dX12_step_202 ?_
              refine ag_bipush (v := 10) dX12_step_205 (by decide) ?_
              refine ag_isIp (c_X12_reg (p24 1080 o0 0) 10  rfl) vwM_D cs_X12_307 rfl rfl (Nat.le_of_ble_eq_true rfl) ⟨by decide, by decide⟩ ⟨Nat.zero_le _, Nat.zero_le _⟩ dX12_step_207 ?_
              refine ag_ltI (fun v26 => ?_)
              refine ag_iconst (v := (-1)) dX12_step_210 (by decide) ?_
              refine ag_bnd (fun p27 hp27 => ?_)
              refine ag_ivVe (c_X12_number o0 v26 (-1) ho0 hp27) vwM_D (vwM_at (kpM_10 _ ho0)) rfl cs_X12_333 rfl rfl (Nat.le_of_ble_eq_true rfl) ⟨by decide, by decide⟩ ⟨Nat.zero_le _, Nat.zero_le _⟩ dX12_step_211 ?_
              refine ag_aload_n dX12_step_214 rfl ?_
              refine ag_aload_n dX12_step_215 rfl ?_
              refine gM_X12_t0 ho0 fl_X12_330 dX12_step_216 ?_
              refine ag_bipush (v := 11) dX12_step_219 (by decide) ?_
              refine ag_isIp (c_X12_reg (p27 1080 o0 0) 11  rfl) vwM_D cs_X12_307 rfl rfl (Nat.le_of_ble_eq_true rfl) ⟨by decide, by decide⟩ ⟨Nat.zero_le _, Nat.zero_le _⟩ dX12_step_221 ?_
              refine ag_ltI (fun v28 => ?_)
              refine ag_iload_n dX12_step_224 rfl ?_
              refine ag_bnd (fun p29 hp29 => ?_)
              refine ag_ivVe (c_X12_number o0 v28 v16 ho0 hp29) vwM_D (vwM_at (kpM_10 _ ho0)) rfl cs_X12_333 rfl rfl (Nat.le_of_ble_eq_true rfl) ⟨by decide, by decide⟩ ⟨Nat.zero_le _, Nat.zero_le _⟩ dX12_step_225 ?_
              refine ag_drop [1, 2] (L' := [some (.ref (bs + posM 10 o0)), none, none]) rfl ?_
              exact hk8 p29
          · refine ag_if_le_v (tgt := 190) dX12_step_183 (by decide) (fun h31 => ?_) (fun h31 => ?_)
            · refine ag_iconst (v := 0) dX12_step_190 (by decide) ?_
              exact hk23 false
            · refine ag_iconst (v := 1) dX12_step_186 (by decide) ?_
              refine ag_goto (tgt := 191) dX12_step_187 (by decide) ?_
              exact hk23 true
        · refine ag_aload_n dX12_step_138 rfl ?_
          refine gM_X12_done ho0 fl_X12_82 dX12_step_139 ?_
          refine ag_aload_n dX12_step_142 rfl ?_
          refine gM_X12_t0 ho0 fl_X12_330 dX12_step_143 ?_
          refine ag_dup2 dX12_step_146 rfl rfl ?_
          refine ag_chk (fun h32 => ?_)
          refine aM_54 (by decide) h32 dX12_step_147 ?_
          refine ag_iconst (v := 1) dX12_step_148 (by decide) ?_
          refine ag_iadd dX12_step_149 ?_
          refine ag_chk (fun h33 => ?_)
          refine sM_54 (by decide) h33 dX12_step_150 ?_
          refine ag_ltV (fun V34 => ?_)
          refine ag_goto (tgt := 228) dX12_step_151 (by decide) ?_
          refine ag_drop [1] (L' := [some (.ref (bs + posM 10 o0)), none, none]) rfl ?_
          exact hk8 V34
  · refine ag_loop2 (F := f_X12_step_L12 o0 k2) (L1 := fun v35 V36 => [some (.ref (bs + posM 10 o0)), some (.int v35), none]) (st1 := fun v35 V36 => []) (ws1 := fun v35 V36 => vwM cy bs V36) (fun n37 ih38 v35 V36 => ?_) (fun _ _ => rfl) FU 0 V1
    rw [f_X12_step_L12]
    refine ag_iload_n dX12_step_12 rfl ?_
    refine ag_aload_n dX12_step_13 rfl ?_
    refine gM_X12_threads ho0 fl_X12_198 dX12_step_14 ?_
    refine ag_icmp_ge (tgt := 96) dX12_step_17 (by decide) (fun h39 => ?_) (fun h39 => ?_)
    · refine ag_drop [1] (L' := [some (.ref (bs + posM 10 o0)), none, none]) rfl ?_
      exact hk3 V36
    · refine ag_aload_n dX12_step_20 rfl ?_
      refine gM_X12_state ho0 fl_X12_61 dX12_step_21 ?_
      refine ag_iload_n dX12_step_24 rfl ?_
      refine ag_chk (fun h40 => ?_)
      refine aM_47 (by decide) h40 dX12_step_25 ?_
      refine ag_iconst (v := 1) dX12_step_26 (by decide) ?_
      refine ag_jn1 (j := 68) (L1 := fun v41 => [some (.ref (bs + posM 10 o0)), some (.int v35), none]) (st1 := fun v41 => [.int (b2i v41)]) (ws1 := fun v41 => vwM cy bs V36) (fun v41 => ?_) (fun k42 hk43 => ?_)
      · refine ag_istore_n (L' := [some (.ref (bs + posM 10 o0)), some (.int v35), some (.int (b2i v41))]) dX12_step_68 (by decide) rfl ?_
        refine ag_iload_n dX12_step_69 rfl ?_
        refine ag_jn1 (j := 90) (L1 := fun V44 => [some (.ref (bs + posM 10 o0)), some (.int v35), some (.int (b2i v41))]) (st1 := fun V44 => []) (ws1 := fun V44 => vwM cy bs V44) (fun V44 => ?_) (fun k45 hk46 => ?_)
        · refine ag_iincL (L' := fun v47 => [some (.ref (bs + posM 10 o0)), some (.int v47), some (.int (b2i v41))]) dX12_step_90 (by decide) rfl (by decide) (fun _ => rfl) (fun v47 => ?_)
          refine ag_goto (tgt := 12) dX12_step_93 (by decide) ?_
          refine ag_drop [2] (L' := [some (.ref (bs + posM 10 o0)), some (.int v47), none]) rfl ?_
          exact ih38 v47 V44
        · refine ag_bif_ne (tgt := 76) dX12_step_70 (by decide) (fun h48 => ?_) (fun h48 => ?_)
          · refine ag_aload_n dX12_step_76 rfl ?_
            refine gM_X12_state ho0 fl_X12_61 dX12_step_77 ?_
            refine ag_iload_n dX12_step_80 rfl ?_
            refine ag_iconst (v := 0) dX12_step_81 (by decide) ?_
            refine ag_chk (fun h49 => ?_)
            refine sM_47 (by decide) h49 dX12_step_82 ?_
            refine ag_ltV (fun V50 => ?_)
            refine ag_aload_n dX12_step_83 rfl ?_
            refine gM_X12_wake ho0 fl_X12_64 dX12_step_84 ?_
            refine ag_iload_n dX12_step_87 rfl ?_
            refine ag_iconst (v := (-1)) dX12_step_88 (by decide) ?_
            refine ag_chk (fun h51 => ?_)
            refine sM_48 (by decide) h51 dX12_step_89 ?_
            refine ag_ltV (fun V52 => ?_)
            exact hk46 V52
          · refine ag_goto (tgt := 90) dX12_step_73 (by decide) ?_
            exact hk46 V36
      · refine ag_jn0 (j := 67) (L1 := [some (.ref (bs + posM 10 o0)), some (.int v35), none]) (st1 := []) (ws1 := vwM cy bs V36) (?_) (fun k53 hk54 => ?_)
        · refine ag_iconst (v := 0) dX12_step_67 (by decide) ?_
          exact hk43 false
        · refine ag_jn0 (j := 40) (L1 := [some (.ref (bs + posM 10 o0)), some (.int v35), none]) (st1 := []) (ws1 := vwM cy bs V36) (?_) (fun k55 hk56 => ?_)
          · refine ag_aload_n dX12_step_40 rfl ?_
            refine gM_X12_wake ho0 fl_X12_64 dX12_step_41 ?_
            refine ag_iload_n dX12_step_44 rfl ?_
            refine ag_chk (fun h57 => ?_)
            refine aM_48 (by decide) h57 dX12_step_45 ?_
            refine ag_iconst (v := (-1)) dX12_step_46 (by decide) ?_
            refine ag_icmp_eq (tgt := 67) dX12_step_47 (by decide) (fun h58 => ?_) (fun h58 => ?_)
            · exact hk54
            · refine ag_aload_n dX12_step_50 rfl ?_
              refine gM_X12_wake ho0 fl_X12_64 dX12_step_51 ?_
              refine ag_iload_n dX12_step_54 rfl ?_
              refine ag_chk (fun h59 => ?_)
              refine aM_48 (by decide) h59 dX12_step_55 ?_
              refine ag_aload_n dX12_step_56 rfl ?_
              refine gM_X12_time ho0 fl_X12_201 dX12_step_57 ?_
              refine ag_icmp_gt (tgt := 67) dX12_step_60 (by decide) (fun h60 => ?_) (fun h60 => ?_)
              · exact hk54
              · refine ag_iconst (v := 1) dX12_step_63 (by decide) ?_
                refine ag_goto (tgt := 68) dX12_step_64 (by decide) ?_
                exact hk43 true
          · refine ag_icmp_eq (tgt := 40) dX12_step_27 (by decide) (fun h61 => ?_) (fun h61 => ?_)
            · exact hk56
            · refine ag_aload_n dX12_step_30 rfl ?_
              refine gM_X12_state ho0 fl_X12_61 dX12_step_31 ?_
              refine ag_iload_n dX12_step_34 rfl ?_
              refine ag_chk (fun h62 => ?_)
              refine aM_47 (by decide) h62 dX12_step_35 ?_
              refine ag_iconst (v := 2) dX12_step_36 (by decide) ?_
              refine ag_icmp_ne (tgt := 67) dX12_step_37 (by decide) (fun h63 => ?_) (fun h63 => ?_)
              · exact hk54
              · exact hk56
set_option maxRecDepth 100000 in
set_option maxHeartbeats 4000000 in
theorem c_X12_run {l : Launch} {D : va_G} {cy : Nat → ClassId} {bs : Nat} {V : HV} (o0 : Nat) (x1 : Int32) (ho0 : o0 < 1) {z : Int32 × HV} (hz : f_X12_run o0 x1 V = some z) : CM l (aG 57 bs) D (tyL cy) (vwM cy bs) yX12_run cX12_run 3 (some .int) 9 213 tvI [.ref (bs + posM 10 o0), .int x1] V z := by
  refine cm_of vwM_D (by decide +kernel) (own := RX12) rfl (Nat.le_of_ble_eq_true rfl) (L := [some (.ref (bs + posM 10 o0)), some (.int x1), none]) rfl hz (fun Γ => ?_)
  unfold f_X12_run
  refine ag_iload_n dX12_run_0 rfl ?_
  refine ag_if_lt (tgt := 11) dX12_run_1 (by decide) (fun h1 => ?_) (fun h1 => ?_)
  · refine ag_iconst (v := (-1)) dX12_run_11 (by decide) ?_
    exact ag_irep dX12_run_12
  · refine ag_iload_n dX12_run_4 rfl ?_
    refine ag_sipush (v := 5000) dX12_run_5 (by decide) ?_
    refine ag_icmp_le (tgt := 13) dX12_run_8 (by decide) (fun h2 => ?_) (fun h2 => ?_)
    · refine ag_iconst (v := 0) dX12_run_13 (by decide) ?_
      refine ag_istore_n (L' := [some (.ref (bs + posM 10 o0)), some (.int x1), some (.int 0)]) dX12_run_14 (by decide) rfl ?_
      refine ag_jn2 (j := 44) (L1 := fun v5 V6 => [some (.ref (bs + posM 10 o0)), some (.int x1), some (.int v5)]) (st1 := fun v5 V6 => []) (ws1 := fun v5 V6 => vwM cy bs V6) (fun v5 V6 => ?_) (fun k3 hk4 => ?_)
      · refine ag_iload_n dX12_run_44 rfl ?_
        exact ag_irep dX12_run_45
      · refine ag_loop2 (F := f_X12_run_L15 o0 x1 k3) (L1 := fun v7 V8 => [some (.ref (bs + posM 10 o0)), some (.int x1), some (.int v7)]) (st1 := fun v7 V8 => []) (ws1 := fun v7 V8 => vwM cy bs V8) (fun n9 ih10 v7 V8 => ?_) (fun _ _ => rfl) FU 0 V
        rw [f_X12_run_L15]
        refine ag_aload_n dX12_run_15 rfl ?_
        refine gM_X12_booted ho0 fl_X12_191 dX12_run_16 ?_
        refine ag_bif_eq (tgt := 44) dX12_run_19 (by decide) (fun h11 => ?_) (fun h11 => ?_)
        · exact hk4 v7 V8
        · refine ag_iload_n dX12_run_22 rfl ?_
          refine ag_iload_n dX12_run_23 rfl ?_
          refine ag_icmp_ge (tgt := 44) dX12_run_24 (by decide) (fun h12 => ?_) (fun h12 => ?_)
          · exact hk4 v7 V8
          · refine ag_aload_n dX12_run_27 rfl ?_
            refine ag_bnd (fun p13 hp13 => ?_)
            refine ag_ivZp (c_X12_areEnded o0 ho0 hp13) vwM_D (vwM_at (kpM_10 _ ho0)) rfl cs_X12_515 rfl rfl (Nat.le_of_ble_eq_true rfl) ⟨by decide, by decide⟩ ⟨Nat.zero_le _, Nat.zero_le _⟩ dX12_run_28 ?_
            refine ag_bif_ne (tgt := 44) dX12_run_31 (by decide) (fun h14 => ?_) (fun h14 => ?_)
            · exact hk4 v7 V8
            · refine ag_aload_n dX12_run_34 rfl ?_
              refine ag_bnd (fun p15 hp15 => ?_)
              refine ag_ivVe (c_X12_step o0 ho0 hp15) vwM_D (vwM_at (kpM_10 _ ho0)) rfl cs_X12_518 rfl rfl (Nat.le_of_ble_eq_true rfl) ⟨by decide, by decide⟩ ⟨Nat.zero_le _, Nat.zero_le _⟩ dX12_run_35 ?_
              refine ag_iincL (L' := fun v16 => [some (.ref (bs + posM 10 o0)), some (.int x1), some (.int v16)]) dX12_run_38 (by decide) rfl (by decide) (fun _ => rfl) (fun v16 => ?_)
              refine ag_goto (tgt := 15) dX12_run_41 (by decide) ?_
              exact ih10 v16 p15
    · refine ag_iconst (v := (-1)) dX12_run_11 (by decide) ?_
      exact ag_irep dX12_run_12
set_option maxRecDepth 100000 in
set_option maxHeartbeats 4000000 in
theorem c_X12_input {l : Launch} {D : va_G} {cy : Nat → ClassId} {bs : Nat} {V : HV} (o0 : Nat) (x1 : Int32) (ho0 : o0 < 1) {z : Bool × HV} (hz : f_X12_input o0 x1 V = some z) : CM l (aG 57 bs) D (tyL cy) (vwM cy bs) yX12_input cX12_input 2 (some .boolean) 0 0 tvZ [.ref (bs + posM 10 o0), .int x1] V z := by
  refine cm_of vwM_D (by decide +kernel) (own := RX12) rfl (Nat.le_of_ble_eq_true rfl) (L := [some (.ref (bs + posM 10 o0)), some (.int x1)]) rfl hz (fun Γ => ?_)
  unfold f_X12_input
  refine ag_iload_n dX12_input_0 rfl ?_
  refine ag_if_lt (tgt := 27) dX12_input_1 (by decide) (fun h1 => ?_) (fun h1 => ?_)
  · refine ag_iconst (v := 0) dX12_input_27 (by decide) ?_
    exact ag_zrep (x := false) dX12_input_28
  · refine ag_iload_n dX12_input_4 rfl ?_
    refine ag_sipush (v := 255) dX12_input_5 (by decide) ?_
    refine ag_icmp_gt (tgt := 27) dX12_input_8 (by decide) (fun h2 => ?_) (fun h2 => ?_)
    · refine ag_iconst (v := 0) dX12_input_27 (by decide) ?_
      exact ag_zrep (x := false) dX12_input_28
    · refine ag_aload_n dX12_input_11 rfl ?_
      refine gM_X12_waitingMany ho0 fl_X12_237 dX12_input_12 ?_
      refine ag_bipush (v := 64) dX12_input_15 (by decide) ?_
      refine ag_icmp_eq (tgt := 27) dX12_input_17 (by decide) (fun h3 => ?_) (fun h3 => ?_)
      · refine ag_iconst (v := 0) dX12_input_27 (by decide) ?_
        exact ag_zrep (x := false) dX12_input_28
      · refine ag_aload_n dX12_input_20 rfl ?_
        refine gM_X12_booted ho0 fl_X12_191 dX12_input_21 ?_
        refine ag_bif_ne (tgt := 29) dX12_input_24 (by decide) (fun h4 => ?_) (fun h4 => ?_)
        · refine ag_aload_n dX12_input_29 rfl ?_
          refine gM_X12_waiting ho0 fl_X12_133 dX12_input_30 ?_
          refine ag_aload_n dX12_input_33 rfl ?_
          refine gM_X12_waitingMany ho0 fl_X12_237 dX12_input_34 ?_
          refine ag_iload_n dX12_input_37 rfl ?_
          refine ag_chk (fun h5 => ?_)
          refine sM_83 (by decide) h5 dX12_input_38 ?_
          refine ag_ltV (fun V6 => ?_)
          refine ag_aload_n dX12_input_39 rfl ?_
          refine ag_dup dX12_input_40 rfl ?_
          refine gM_X12_waitingMany ho0 fl_X12_237 dX12_input_41 ?_
          refine ag_iconst (v := 1) dX12_input_44 (by decide) ?_
          refine ag_iadd dX12_input_45 ?_
          refine pM_X12_waitingMany ho0 fl_X12_237 dX12_input_46 ?_
          refine ag_ltV (fun V7 => ?_)
          refine ag_iconst (v := 1) dX12_input_49 (by decide) ?_
          exact ag_zrep (x := true) dX12_input_50
        · refine ag_iconst (v := 0) dX12_input_27 (by decide) ?_
          exact ag_zrep (x := false) dX12_input_28
