set_option maxRecDepth 100000 in
set_option maxHeartbeats 4000000 in
theorem c_X12_readCompartment {l : Launch} {D : va_G} {cy : Nat → ClassId} {bs : Nat} {V : HV} (o0 : Nat) (x1 : Int32) (ho0 : o0 < 1) {z : HV} (hz : f_X12_readCompartment o0 x1 V = some z) : CM l (aG 57 bs) D (tyL cy) (vwM cy bs) yX12_readCompartment cX12_readCompartment 6 none 2 47 tvV [.ref (bs + posM 10 o0), .int x1] V ((), z) := by
  refine cm_of vwM_D (by decide +kernel) (own := RX12) rfl (Nat.le_of_ble_eq_true rfl) (L := [some (.ref (bs + posM 10 o0)), some (.int x1), none, none, none, none]) rfl hz (fun Γ => ?_)
  unfold f_X12_readCompartment
  refine ag_aload_n dX12_readCompartment_0 rfl ?_
  refine gM_X12_words ho0 fl_X12_139 dX12_readCompartment_1 ?_
  refine ag_iload_n dX12_readCompartment_4 rfl ?_
  refine ag_aload_n dX12_readCompartment_5 rfl ?_
  refine ag_iconst (v := 2) dX12_readCompartment_6 (by decide) ?_
  refine ag_iconst (v := 1) dX12_readCompartment_7 (by decide) ?_
  refine ag_sipush (v := 200) dX12_readCompartment_8 (by decide) ?_
  refine ag_bnd (fun p1 hp1 => ?_)
  refine ag_ivIe (c_X12_next o0 2 1 200 ho0 hp1) vwM_D (vwM_at (kpM_10 _ ho0)) rfl cs_X12_291 rfl rfl (Nat.le_of_ble_eq_true rfl) ⟨by decide, by decide⟩ ⟨Nat.zero_le _, Nat.zero_le _⟩ dX12_readCompartment_11 ?_
  refine ag_chk (fun h2 => ?_)
  refine sM_88 (by decide) h2 dX12_readCompartment_14 ?_
  refine ag_ltV (fun V3 => ?_)
  refine ag_aload_n dX12_readCompartment_15 rfl ?_
  refine gM_X12_globalSize ho0 fl_X12_142 dX12_readCompartment_16 ?_
  refine ag_iload_n dX12_readCompartment_19 rfl ?_
  refine ag_aload_n dX12_readCompartment_20 rfl ?_
  refine ag_iconst (v := 1) dX12_readCompartment_21 (by decide) ?_
  refine ag_iconst (v := 0) dX12_readCompartment_22 (by decide) ?_
  refine ag_bipush (v := 32) dX12_readCompartment_23 (by decide) ?_
  refine ag_bnd (fun p4 hp4 => ?_)
  refine ag_ivIe (c_X12_next o0 1 0 32 ho0 hp4) vwM_D (vwM_at (kpM_10 _ ho0)) rfl cs_X12_291 rfl rfl (Nat.le_of_ble_eq_true rfl) ⟨by decide, by decide⟩ ⟨Nat.zero_le _, Nat.zero_le _⟩ dX12_readCompartment_25 ?_
  refine ag_chk (fun h5 => ?_)
  refine sM_89 (by decide) h5 dX12_readCompartment_28 ?_
  refine ag_ltV (fun V6 => ?_)
  refine ag_aload_n dX12_readCompartment_29 rfl ?_
  refine gM_X12_exports ho0 fl_X12_52 dX12_readCompartment_30 ?_
  refine ag_iload_n dX12_readCompartment_33 rfl ?_
  refine ag_aload_n dX12_readCompartment_34 rfl ?_
  refine ag_iconst (v := 1) dX12_readCompartment_35 (by decide) ?_
  refine ag_iconst (v := 0) dX12_readCompartment_36 (by decide) ?_
  refine ag_bipush (v := 8) dX12_readCompartment_37 (by decide) ?_
  refine ag_bnd (fun p7 hp7 => ?_)
  refine ag_ivIe (c_X12_next o0 1 0 8 ho0 hp7) vwM_D (vwM_at (kpM_10 _ ho0)) rfl cs_X12_291 rfl rfl (Nat.le_of_ble_eq_true rfl) ⟨by decide, by decide⟩ ⟨Nat.zero_le _, Nat.zero_le _⟩ dX12_readCompartment_39 ?_
  refine ag_chk (fun h8 => ?_)
  refine sM_44 (by decide) h8 dX12_readCompartment_42 ?_
  refine ag_ltV (fun V9 => ?_)
  refine ag_aload_n dX12_readCompartment_43 rfl ?_
  refine gM_X12_imports ho0 fl_X12_145 dX12_readCompartment_44 ?_
  refine ag_iload_n dX12_readCompartment_47 rfl ?_
  refine ag_aload_n dX12_readCompartment_48 rfl ?_
  refine ag_iconst (v := 1) dX12_readCompartment_49 (by decide) ?_
  refine ag_iconst (v := 0) dX12_readCompartment_50 (by decide) ?_
  refine ag_bipush (v := 16) dX12_readCompartment_51 (by decide) ?_
  refine ag_bnd (fun p10 hp10 => ?_)
  refine ag_ivIe (c_X12_next o0 1 0 16 ho0 hp10) vwM_D (vwM_at (kpM_10 _ ho0)) rfl cs_X12_291 rfl rfl (Nat.le_of_ble_eq_true rfl) ⟨by decide, by decide⟩ ⟨Nat.zero_le _, Nat.zero_le _⟩ dX12_readCompartment_53 ?_
  refine ag_chk (fun h11 => ?_)
  refine sM_90 (by decide) h11 dX12_readCompartment_56 ?_
  refine ag_ltV (fun V12 => ?_)
  refine ag_iconst (v := 0) dX12_readCompartment_57 (by decide) ?_
  refine ag_istore_n (L' := [some (.ref (bs + posM 10 o0)), some (.int x1), some (.int 0), none, none, none]) dX12_readCompartment_58 (by decide) rfl ?_
  refine ag_jn1 (j := 118) (L1 := fun V15 => [some (.ref (bs + posM 10 o0)), some (.int x1), none, none, none, none]) (st1 := fun V15 => []) (ws1 := fun V15 => vwM cy bs V15) (fun V15 => ?_) (fun k13 hk14 => ?_)
  · refine ag_iconst (v := 0) dX12_readCompartment_118 (by decide) ?_
    refine ag_istore_n (L' := [some (.ref (bs + posM 10 o0)), some (.int x1), some (.int 0), none, none, none]) dX12_readCompartment_119 (by decide) rfl ?_
    refine ag_jn1 (j := 320) (L1 := fun V18 => [some (.ref (bs + posM 10 o0)), some (.int x1), none, none, none, none]) (st1 := fun V18 => []) (ws1 := fun V18 => vwM cy bs V18) (fun V18 => ?_) (fun k16 hk17 => ?_)
    · refine ag_aload_n dX12_readCompartment_320 rfl ?_
      refine gM_X12_codePlace ho0 fl_X12_160 dX12_readCompartment_321 ?_
      refine ag_iload_n dX12_readCompartment_324 rfl ?_
      refine ag_aload_n dX12_readCompartment_325 rfl ?_
      refine gM_X12_at ho0 fl_X12_281 dX12_readCompartment_326 ?_
      refine ag_chk (fun h19 => ?_)
      refine sM_95 (by decide) h19 dX12_readCompartment_329 ?_
      refine ag_ltV (fun V20 => ?_)
      refine ag_aload_n dX12_readCompartment_330 rfl ?_
      refine gM_X12_fault ho0 fl_X12_278 dX12_readCompartment_331 ?_
      refine ag_jn1 (j := 366) (L1 := fun V21 => [some (.ref (bs + posM 10 o0)), some (.int x1), none, none, none, none]) (st1 := fun V21 => []) (ws1 := fun V21 => vwM cy bs V21) (fun V21 => ?_) (fun k22 hk23 => ?_)
      · refine ag_aload_n dX12_readCompartment_366 rfl ?_
        refine ag_dup dX12_readCompartment_367 rfl ?_
        refine gM_X12_at ho0 fl_X12_281 dX12_readCompartment_368 ?_
        refine ag_iconst (v := 4) dX12_readCompartment_371 (by decide) ?_
        refine ag_aload_n dX12_readCompartment_372 rfl ?_
        refine gM_X12_words ho0 fl_X12_139 dX12_readCompartment_373 ?_
        refine ag_iload_n dX12_readCompartment_376 rfl ?_
        refine ag_chk (fun h24 => ?_)
        refine aM_88 (by decide) h24 dX12_readCompartment_377 ?_
        refine ag_imul dX12_readCompartment_378 ?_
        refine ag_iadd dX12_readCompartment_379 ?_
        refine pM_X12_at ho0 fl_X12_281 dX12_readCompartment_380 ?_
        refine ag_ltV (fun V25 => ?_)
        exact ag_vrep dX12_readCompartment_383
      · refine ag_if_ne (tgt := 366) dX12_readCompartment_334 (by decide) (fun h26 => ?_) (fun h26 => ?_)
        · exact hk23 V20
        · refine ag_aload_n dX12_readCompartment_337 rfl ?_
          refine gM_X12_at ho0 fl_X12_281 dX12_readCompartment_338 ?_
          refine ag_iconst (v := 4) dX12_readCompartment_341 (by decide) ?_
          refine ag_aload_n dX12_readCompartment_342 rfl ?_
          refine gM_X12_words ho0 fl_X12_139 dX12_readCompartment_343 ?_
          refine ag_iload_n dX12_readCompartment_346 rfl ?_
          refine ag_chk (fun h27 => ?_)
          refine aM_88 (by decide) h27 dX12_readCompartment_347 ?_
          refine ag_imul dX12_readCompartment_348 ?_
          refine ag_iadd dX12_readCompartment_349 ?_
          refine ag_aload_n dX12_readCompartment_350 rfl ?_
          refine gM_X12_imageSize ho0 fl_X12_284 dX12_readCompartment_351 ?_
          refine ag_icmp_le (tgt := 366) dX12_readCompartment_354 (by decide) (fun h28 => ?_) (fun h28 => ?_)
          · exact hk23 V20
          · refine ag_aload_n dX12_readCompartment_357 rfl ?_
            refine ag_iconst (v := 1) dX12_readCompartment_358 (by decide) ?_
            refine ag_aload_n dX12_readCompartment_359 rfl ?_
            refine gM_X12_imageSize ho0 fl_X12_284 dX12_readCompartment_360 ?_
            refine ag_ivVe (c_X12_fails o0 1 (V20 1013 o0 0) ho0 rfl) vwM_D (vwM_at (kpM_10 _ ho0)) rfl cs_X12_287 rfl rfl (Nat.le_of_ble_eq_true rfl) ⟨by decide, by decide⟩ ⟨Nat.zero_le _, Nat.zero_le _⟩ dX12_readCompartment_363 ?_
            refine ag_ltV (fun V29 => ?_)
            exact hk23 V29
    · refine ag_loop2 (F := f_X12_readCompartment_L120 o0 x1 k16) (L1 := fun v30 V31 => [some (.ref (bs + posM 10 o0)), some (.int x1), some (.int v30), none, none, none]) (st1 := fun v30 V31 => []) (ws1 := fun v30 V31 => vwM cy bs V31) (fun n32 ih33 v30 V31 => ?_) (fun _ _ => rfl) FU 0 V15
      rw [f_X12_readCompartment_L120]
      refine ag_iload_n dX12_readCompartment_120 rfl ?_
      refine ag_aload_n dX12_readCompartment_121 rfl ?_
      refine gM_X12_imports ho0 fl_X12_145 dX12_readCompartment_122 ?_
      refine ag_iload_n dX12_readCompartment_125 rfl ?_
      refine ag_chk (fun h34 => ?_)
      refine aM_90 (by decide) h34 dX12_readCompartment_126 ?_
      refine ag_icmp_ge (tgt := 320) dX12_readCompartment_127 (by decide) (fun h35 => ?_) (fun h35 => ?_)
      · refine ag_drop [2] (L' := [some (.ref (bs + posM 10 o0)), some (.int x1), none, none, none, none]) rfl ?_
        exact hk17 V31
      · refine ag_bipush (v := 16) dX12_readCompartment_130 (by decide) ?_
        refine ag_iload_n dX12_readCompartment_132 rfl ?_
        refine ag_imul dX12_readCompartment_133 ?_
        refine ag_iload_n dX12_readCompartment_134 rfl ?_
        refine ag_iadd dX12_readCompartment_135 ?_
        refine ag_ltI (fun v36 => ?_)
        refine ag_istore_n (L' := [some (.ref (bs + posM 10 o0)), some (.int x1), some (.int v30), some (.int v36), none, none]) dX12_readCompartment_136 (by decide) rfl ?_
        refine ag_aload_n dX12_readCompartment_137 rfl ?_
        refine gM_X12_importPlace ho0 fl_X12_157 dX12_readCompartment_138 ?_
        refine ag_iload_n dX12_readCompartment_141 rfl ?_
        refine ag_aload_n dX12_readCompartment_142 rfl ?_
        refine gM_X12_at ho0 fl_X12_281 dX12_readCompartment_143 ?_
        refine ag_chk (fun h37 => ?_)
        refine sM_94 (by decide) h37 dX12_readCompartment_146 ?_
        refine ag_ltV (fun V38 => ?_)
        refine ag_aload_n dX12_readCompartment_147 rfl ?_
        refine ag_iconst (v := 1) dX12_readCompartment_148 (by decide) ?_
        refine ag_iconst (v := 0) dX12_readCompartment_149 (by decide) ?_
        refine ag_iconst (v := 4) dX12_readCompartment_150 (by decide) ?_
        refine ag_bnd (fun p39 hp39 => ?_)
        refine ag_ivIe (c_X12_next o0 1 0 4 ho0 hp39) vwM_D (vwM_at (kpM_10 _ ho0)) rfl cs_X12_291 rfl rfl (Nat.le_of_ble_eq_true rfl) ⟨by decide, by decide⟩ ⟨Nat.zero_le _, Nat.zero_le _⟩ dX12_readCompartment_151 ?_
        refine ag_ltI (fun v40 => ?_)
        refine ag_istore (L' := [some (.ref (bs + posM 10 o0)), some (.int x1), some (.int v30), some (.int v36), some (.int v40), none]) dX12_readCompartment_154 (by decide) rfl ?_
        refine ag_aload_n dX12_readCompartment_156 rfl ?_
        refine gM_X12_importKind ho0 fl_X12_148 dX12_readCompartment_157 ?_
        refine ag_iload_n dX12_readCompartment_160 rfl ?_
        refine ag_iload dX12_readCompartment_161 rfl ?_
        refine ag_chk (fun h41 => ?_)
        refine sM_91 (by decide) h41 dX12_readCompartment_163 ?_
        refine ag_ltV (fun V42 => ?_)
        refine ag_aload_n dX12_readCompartment_164 rfl ?_
        refine gM_X12_importX ho0 fl_X12_151 dX12_readCompartment_165 ?_
        refine ag_iload_n dX12_readCompartment_168 rfl ?_
        refine ag_aload_n dX12_readCompartment_169 rfl ?_
        refine ag_iconst (v := 1) dX12_readCompartment_170 (by decide) ?_
        refine ag_iload dX12_readCompartment_171 rfl ?_
        refine ag_iconst (v := 2) dX12_readCompartment_173 (by decide) ?_
        refine ag_dv (j := 182) (L1 := fun _ => [some (.ref (bs + posM 10 o0)), some (.int x1), some (.int v30), some (.int v36), some (.int v40), none]) (st1 := fun v43 => [.int (b2i v43), .int 1, .ref (bs + posM 10 o0), .int v36, .ref (bs + posM 92 0)]) (ws1 := fun _ => vwM cy bs V42) (fun v43 => ?_) (fun k80 hk44 => ?_)
        · refine ag_iload dX12_readCompartment_182 rfl ?_
          refine ag_iconst (v := 1) dX12_readCompartment_184 (by decide) ?_
          refine ag_dv (j := 218) (L1 := fun _ => [some (.ref (bs + posM 10 o0)), some (.int x1), some (.int v30), some (.int v36), some (.int v40), none]) (st1 := fun v45 => [.int v45, .int (b2i v43), .int 1, .ref (bs + posM 10 o0), .int v36, .ref (bs + posM 92 0)]) (ws1 := fun _ => vwM cy bs V42) (fun v45 => ?_) (fun k76 hk46 => ?_)
          · refine ag_bnd (fun p47 hp47 => ?_)
            refine ag_ivIe (c_X12_next o0 1 (b2i v43) v45 ho0 hp47) vwM_D (vwM_at (kpM_10 _ ho0)) rfl cs_X12_291 rfl rfl (Nat.le_of_ble_eq_true rfl) ⟨by decide, by decide⟩ ⟨Nat.zero_le _, Nat.zero_le _⟩ dX12_readCompartment_218 ?_
            refine ag_chk (fun h48 => ?_)
            refine sM_92 (by decide) h48 dX12_readCompartment_221 ?_
            refine ag_ltV (fun V49 => ?_)
            refine ag_aload_n dX12_readCompartment_222 rfl ?_
            refine gM_X12_at ho0 fl_X12_281 dX12_readCompartment_223 ?_
            refine ag_ltI (fun v50 => ?_)
            refine ag_istore (L' := [some (.ref (bs + posM 10 o0)), some (.int x1), some (.int v30), some (.int v36), some (.int v40), some (.int v50)]) dX12_readCompartment_226 (by decide) rfl ?_
            refine ag_aload_n dX12_readCompartment_228 rfl ?_
            refine gM_X12_importY ho0 fl_X12_154 dX12_readCompartment_229 ?_
            refine ag_iload_n dX12_readCompartment_232 rfl ?_
            refine ag_aload_n dX12_readCompartment_233 rfl ?_
            refine ag_iconst (v := 1) dX12_readCompartment_234 (by decide) ?_
            refine ag_iload dX12_readCompartment_235 rfl ?_
            refine ag_iconst (v := 3) dX12_readCompartment_237 (by decide) ?_
            refine ag_dv (j := 246) (L1 := fun _ => [some (.ref (bs + posM 10 o0)), some (.int x1), some (.int v30), some (.int v36), some (.int v40), some (.int v50)]) (st1 := fun v51 => [.int (b2i v51), .int 1, .ref (bs + posM 10 o0), .int v36, .ref (bs + posM 93 0)]) (ws1 := fun _ => vwM cy bs V49) (fun v51 => ?_) (fun k74 hk52 => ?_)
            · refine ag_iload dX12_readCompartment_246 rfl ?_
              refine ag_iconst (v := 1) dX12_readCompartment_248 (by decide) ?_
              refine ag_dv (j := 276) (L1 := fun _ => [some (.ref (bs + posM 10 o0)), some (.int x1), some (.int v30), some (.int v36), some (.int v40), some (.int v50)]) (st1 := fun v53 => [.int v53, .int (b2i v51), .int 1, .ref (bs + posM 10 o0), .int v36, .ref (bs + posM 93 0)]) (ws1 := fun _ => vwM cy bs V49) (fun v53 => ?_) (fun k70 hk54 => ?_)
              · refine ag_bnd (fun p55 hp55 => ?_)
                refine ag_ivIe (c_X12_next o0 1 (b2i v51) v53 ho0 hp55) vwM_D (vwM_at (kpM_10 _ ho0)) rfl cs_X12_291 rfl rfl (Nat.le_of_ble_eq_true rfl) ⟨by decide, by decide⟩ ⟨Nat.zero_le _, Nat.zero_le _⟩ dX12_readCompartment_276 ?_
                refine ag_chk (fun h56 => ?_)
                refine sM_93 (by decide) h56 dX12_readCompartment_279 ?_
                refine ag_ltV (fun V57 => ?_)
                refine ag_iload dX12_readCompartment_280 rfl ?_
                refine ag_iconst (v := 4) dX12_readCompartment_282 (by decide) ?_
                refine ag_jn1 (j := 314) (L1 := fun V58 => [some (.ref (bs + posM 10 o0)), some (.int x1), some (.int v30), some (.int v36), some (.int v40), some (.int v50)]) (st1 := fun V58 => []) (ws1 := fun V58 => vwM cy bs V58) (fun V58 => ?_) (fun k59 hk60 => ?_)
                · refine ag_iincL (L' := fun v61 => [some (.ref (bs + posM 10 o0)), some (.int x1), some (.int v61), some (.int v36), some (.int v40), some (.int v50)]) dX12_readCompartment_314 (by decide) rfl (by decide) (fun _ => rfl) (fun v61 => ?_)
                  refine ag_goto (tgt := 120) dX12_readCompartment_317 (by decide) ?_
                  refine ag_drop [3, 4, 5] (L' := [some (.ref (bs + posM 10 o0)), some (.int x1), some (.int v61), none, none, none]) rfl ?_
                  exact ih33 v61 V58
                · refine ag_icmp_ne (tgt := 314) dX12_readCompartment_283 (by decide) (fun h62 => ?_) (fun h62 => ?_)
                  · exact hk60 V57
                  · refine ag_aload_n dX12_readCompartment_286 rfl ?_
                    refine gM_X12_importY ho0 fl_X12_154 dX12_readCompartment_287 ?_
                    refine ag_iload_n dX12_readCompartment_290 rfl ?_
                    refine ag_chk (fun h63 => ?_)
                    refine aM_93 (by decide) h63 dX12_readCompartment_291 ?_
                    refine ag_jn0 (j := 307) (L1 := [some (.ref (bs + posM 10 o0)), some (.int x1), some (.int v30), some (.int v36), some (.int v40), some (.int v50)]) (st1 := []) (ws1 := vwM cy bs V57) (?_) (fun k64 hk65 => ?_)
                    · refine ag_aload_n dX12_readCompartment_307 rfl ?_
                      refine ag_iconst (v := 2) dX12_readCompartment_308 (by decide) ?_
                      refine ag_iload dX12_readCompartment_309 rfl ?_
                      refine ag_ivVe (c_X12_fails o0 2 v50 ho0 rfl) vwM_D (vwM_at (kpM_10 _ ho0)) rfl cs_X12_287 rfl rfl (Nat.le_of_ble_eq_true rfl) ⟨by decide, by decide⟩ ⟨Nat.zero_le _, Nat.zero_le _⟩ dX12_readCompartment_311 ?_
                      refine ag_ltV (fun V66 => ?_)
                      exact hk60 V66
                    · refine ag_if_eq (tgt := 307) dX12_readCompartment_292 (by decide) (fun h67 => ?_) (fun h67 => ?_)
                      · exact hk65
                      · refine ag_aload_n dX12_readCompartment_295 rfl ?_
                        refine gM_X12_importY ho0 fl_X12_154 dX12_readCompartment_296 ?_
                        refine ag_iload_n dX12_readCompartment_299 rfl ?_
                        refine ag_chk (fun h68 => ?_)
                        refine aM_93 (by decide) h68 dX12_readCompartment_300 ?_
                        refine ag_bipush (v := (-28)) dX12_readCompartment_301 (by decide) ?_
                        refine ag_iand dX12_readCompartment_303 ?_
                        refine ag_if_eq (tgt := 314) dX12_readCompartment_304 (by decide) (fun h69 => ?_) (fun h69 => ?_)
                        · exact hk60 V57
                        · exact hk65
              · refine ag_icmp_eq_v (tgt := 258) dX12_readCompartment_249 (by decide) (fun h71 => ?_) (fun h71 => ?_)
                · refine ag_iconst (v := 0) dX12_readCompartment_258 (by decide) ?_
                  refine ag_goto (tgt := 276) dX12_readCompartment_259 (by decide) ?_
                  exact hk54 0
                · refine ag_iload dX12_readCompartment_252 rfl ?_
                  refine ag_iconst (v := 2) dX12_readCompartment_254 (by decide) ?_
                  refine ag_icmp_ne_v (tgt := 262) dX12_readCompartment_255 (by decide) (fun h72 => ?_) (fun h72 => ?_)
                  · refine ag_iload dX12_readCompartment_262 rfl ?_
                    refine ag_iconst (v := 3) dX12_readCompartment_264 (by decide) ?_
                    refine ag_icmp_ne_v (tgt := 273) dX12_readCompartment_265 (by decide) (fun h73 => ?_) (fun h73 => ?_)
                    · refine ag_sipush (v := 255) dX12_readCompartment_273 (by decide) ?_
                      exact hk54 255
                    · refine ag_bipush (v := 16) dX12_readCompartment_268 (by decide) ?_
                      refine ag_goto (tgt := 276) dX12_readCompartment_270 (by decide) ?_
                      exact hk54 16
                  · refine ag_iconst (v := 0) dX12_readCompartment_258 (by decide) ?_
                    refine ag_goto (tgt := 276) dX12_readCompartment_259 (by decide) ?_
                    exact hk54 0
            · refine ag_icmp_ne_v (tgt := 245) dX12_readCompartment_238 (by decide) (fun h75 => ?_) (fun h75 => ?_)
              · refine ag_iconst (v := 0) dX12_readCompartment_245 (by decide) ?_
                exact hk52 false
              · refine ag_iconst (v := 1) dX12_readCompartment_241 (by decide) ?_
                refine ag_goto (tgt := 246) dX12_readCompartment_242 (by decide) ?_
                exact hk52 true
          · refine ag_icmp_ne_v (tgt := 193) dX12_readCompartment_185 (by decide) (fun h77 => ?_) (fun h77 => ?_)
            · refine ag_iload dX12_readCompartment_193 rfl ?_
              refine ag_iconst (v := 2) dX12_readCompartment_195 (by decide) ?_
              refine ag_icmp_ne_v (tgt := 203) dX12_readCompartment_196 (by decide) (fun h78 => ?_) (fun h78 => ?_)
              · refine ag_iload dX12_readCompartment_203 rfl ?_
                refine ag_iconst (v := 3) dX12_readCompartment_205 (by decide) ?_
                refine ag_icmp_ne_v (tgt := 215) dX12_readCompartment_206 (by decide) (fun h79 => ?_) (fun h79 => ?_)
                · refine ag_sipush (v := 255) dX12_readCompartment_215 (by decide) ?_
                  exact hk46 255
                · refine ag_sipush (v := 239) dX12_readCompartment_209 (by decide) ?_
                  refine ag_goto (tgt := 218) dX12_readCompartment_212 (by decide) ?_
                  exact hk46 239
              · refine ag_iconst (v := 3) dX12_readCompartment_199 (by decide) ?_
                refine ag_goto (tgt := 218) dX12_readCompartment_200 (by decide) ?_
                exact hk46 3
            · refine ag_bipush (v := 8) dX12_readCompartment_188 (by decide) ?_
              refine ag_goto (tgt := 218) dX12_readCompartment_190 (by decide) ?_
              exact hk46 8
        · refine ag_icmp_ne_v (tgt := 181) dX12_readCompartment_174 (by decide) (fun h81 => ?_) (fun h81 => ?_)
          · refine ag_iconst (v := 0) dX12_readCompartment_181 (by decide) ?_
            exact hk44 false
          · refine ag_iconst (v := 1) dX12_readCompartment_177 (by decide) ?_
            refine ag_goto (tgt := 182) dX12_readCompartment_178 (by decide) ?_
            exact hk44 true
  · refine ag_loop2 (F := f_X12_readCompartment_L59 o0 x1 k13) (L1 := fun v82 V83 => [some (.ref (bs + posM 10 o0)), some (.int x1), some (.int v82), none, none, none]) (st1 := fun v82 V83 => []) (ws1 := fun v82 V83 => vwM cy bs V83) (fun n84 ih85 v82 V83 => ?_) (fun _ _ => rfl) FU 0 V12
    rw [f_X12_readCompartment_L59]
    refine ag_iload_n dX12_readCompartment_59 rfl ?_
    refine ag_aload_n dX12_readCompartment_60 rfl ?_
    refine gM_X12_exports ho0 fl_X12_52 dX12_readCompartment_61 ?_
    refine ag_iload_n dX12_readCompartment_64 rfl ?_
    refine ag_chk (fun h86 => ?_)
    refine aM_44 (by decide) h86 dX12_readCompartment_65 ?_
    refine ag_icmp_ge (tgt := 118) dX12_readCompartment_66 (by decide) (fun h87 => ?_) (fun h87 => ?_)
    · refine ag_drop [2] (L' := [some (.ref (bs + posM 10 o0)), some (.int x1), none, none, none, none]) rfl ?_
      exact hk14 V83
    · refine ag_aload_n dX12_readCompartment_69 rfl ?_
      refine gM_X12_exportWord ho0 fl_X12_55 dX12_readCompartment_70 ?_
      refine ag_bipush (v := 8) dX12_readCompartment_73 (by decide) ?_
      refine ag_iload_n dX12_readCompartment_75 rfl ?_
      refine ag_imul dX12_readCompartment_76 ?_
      refine ag_iload_n dX12_readCompartment_77 rfl ?_
      refine ag_iadd dX12_readCompartment_78 ?_
      refine ag_aload_n dX12_readCompartment_79 rfl ?_
      refine ag_iconst (v := 2) dX12_readCompartment_80 (by decide) ?_
      refine ag_iconst (v := 0) dX12_readCompartment_81 (by decide) ?_
      refine ag_aload_n dX12_readCompartment_82 rfl ?_
      refine gM_X12_words ho0 fl_X12_139 dX12_readCompartment_83 ?_
      refine ag_iload_n dX12_readCompartment_86 rfl ?_
      refine ag_chk (fun h88 => ?_)
      refine aM_88 (by decide) h88 dX12_readCompartment_87 ?_
      refine ag_iconst (v := 1) dX12_readCompartment_88 (by decide) ?_
      refine ag_isub dX12_readCompartment_89 ?_
      refine ag_bnd (fun p89 hp89 => ?_)
      refine ag_ivIe (c_X12_next o0 2 0 ((V83 8800 0 (x1).toNatClampNeg) - 1) ho0 hp89) vwM_D (vwM_at (kpM_10 _ ho0)) rfl cs_X12_291 rfl rfl (Nat.le_of_ble_eq_true rfl) ⟨by decide, by decide⟩ ⟨Nat.zero_le _, Nat.zero_le _⟩ dX12_readCompartment_90 ?_
      refine ag_chk (fun h90 => ?_)
      refine sM_45 (by decide) h90 dX12_readCompartment_93 ?_
      refine ag_ltV (fun V91 => ?_)
      refine ag_aload_n dX12_readCompartment_94 rfl ?_
      refine gM_X12_exportKind ho0 fl_X12_58 dX12_readCompartment_95 ?_
      refine ag_bipush (v := 8) dX12_readCompartment_98 (by decide) ?_
      refine ag_iload_n dX12_readCompartment_100 rfl ?_
      refine ag_imul dX12_readCompartment_101 ?_
      refine ag_iload_n dX12_readCompartment_102 rfl ?_
      refine ag_iadd dX12_readCompartment_103 ?_
      refine ag_aload_n dX12_readCompartment_104 rfl ?_
      refine ag_iconst (v := 1) dX12_readCompartment_105 (by decide) ?_
      refine ag_iconst (v := 1) dX12_readCompartment_106 (by decide) ?_
      refine ag_iconst (v := 3) dX12_readCompartment_107 (by decide) ?_
      refine ag_bnd (fun p92 hp92 => ?_)
      refine ag_ivIe (c_X12_next o0 1 1 3 ho0 hp92) vwM_D (vwM_at (kpM_10 _ ho0)) rfl cs_X12_291 rfl rfl (Nat.le_of_ble_eq_true rfl) ⟨by decide, by decide⟩ ⟨Nat.zero_le _, Nat.zero_le _⟩ dX12_readCompartment_108 ?_
      refine ag_chk (fun h93 => ?_)
      refine sM_46 (by decide) h93 dX12_readCompartment_111 ?_
      refine ag_ltV (fun V94 => ?_)
      refine ag_iincL (L' := fun v95 => [some (.ref (bs + posM 10 o0)), some (.int x1), some (.int v95), none, none, none]) dX12_readCompartment_112 (by decide) rfl (by decide) (fun _ => rfl) (fun v95 => ?_)
      refine ag_goto (tgt := 59) dX12_readCompartment_115 (by decide) ?_
      exact ih85 v95 V94
set_option maxRecDepth 100000 in
set_option maxHeartbeats 4000000 in
theorem c_X12_layout {l : Launch} {D : va_G} {cy : Nat → ClassId} {bs : Nat} {V : HV} (o0 : Nat) (ho0 : o0 < 1) {z : HV} (hz : f_X12_layout o0 V = some z) : CM l (aG 57 bs) D (tyL cy) (vwM cy bs) yX12_layout cX12_layout 3 none 0 0 tvV [.ref (bs + posM 10 o0)] V ((), z) := by
  refine cm_of vwM_D (by decide +kernel) (own := RX12) rfl (Nat.le_of_ble_eq_true rfl) (L := [some (.ref (bs + posM 10 o0)), none, none]) rfl hz (fun Γ => ?_)
  unfold f_X12_layout
  refine ag_iconst (v := 0) dX12_layout_0 (by decide) ?_
  refine ag_istore_n (L' := [some (.ref (bs + posM 10 o0)), some (.int 0), none]) dX12_layout_1 (by decide) rfl ?_
  refine ag_iconst (v := 0) dX12_layout_2 (by decide) ?_
  refine ag_istore_n (L' := [some (.ref (bs + posM 10 o0)), some (.int 0), some (.int 0)]) dX12_layout_3 (by decide) rfl ?_
  refine ag_jn2 (j := 90) (L1 := fun v3 V4 => [some (.ref (bs + posM 10 o0)), some (.int v3), none]) (st1 := fun v3 V4 => []) (ws1 := fun v3 V4 => vwM cy bs V4) (fun v3 V4 => ?_) (fun k1 hk2 => ?_)
  · refine ag_iconst (v := 0) dX12_layout_90 (by decide) ?_
    refine ag_istore_n (L' := [some (.ref (bs + posM 10 o0)), some (.int v3), some (.int 0)]) dX12_layout_91 (by decide) rfl ?_
    refine ag_jn2 (j := 132) (L1 := fun v7 V8 => [some (.ref (bs + posM 10 o0)), some (.int v7), none]) (st1 := fun v7 V8 => []) (ws1 := fun v7 V8 => vwM cy bs V8) (fun v7 V8 => ?_) (fun k5 hk6 => ?_)
    · refine ag_aload_n dX12_layout_132 rfl ?_
      refine ag_iload_n dX12_layout_133 rfl ?_
      refine pM_X12_heapAt ho0 fl_X12_222 dX12_layout_134 ?_
      refine ag_ltV (fun V9 => ?_)
      exact ag_vrep dX12_layout_137
    · refine ag_loop3 (F := f_X12_layout_L92 o0 k5) (L1 := fun v10 v11 V12 => [some (.ref (bs + posM 10 o0)), some (.int v10), some (.int v11)]) (st1 := fun v10 v11 V12 => []) (ws1 := fun v10 v11 V12 => vwM cy bs V12) (fun n13 ih14 v10 v11 V12 => ?_) (fun _ _ _ => rfl) FU v3 0 V4
      rw [f_X12_layout_L92]
      refine ag_iload_n dX12_layout_92 rfl ?_
      refine ag_aload_n dX12_layout_93 rfl ?_
      refine gM_X12_threads ho0 fl_X12_198 dX12_layout_94 ?_
      refine ag_icmp_ge (tgt := 132) dX12_layout_97 (by decide) (fun h15 => ?_) (fun h15 => ?_)
      · refine ag_drop [2] (L' := [some (.ref (bs + posM 10 o0)), some (.int v10), none]) rfl ?_
        exact hk6 v10 V12
      · refine ag_aload_n dX12_layout_100 rfl ?_
        refine gM_X12_stackAt ho0 fl_X12_88 dX12_layout_101 ?_
        refine ag_iload_n dX12_layout_104 rfl ?_
        refine ag_iload_n dX12_layout_105 rfl ?_
        refine ag_chk (fun h16 => ?_)
        refine sM_56 (by decide) h16 dX12_layout_106 ?_
        refine ag_ltV (fun V17 => ?_)
        refine ag_iload_n dX12_layout_107 rfl ?_
        refine ag_bipush (v := 16) dX12_layout_108 (by decide) ?_
        refine ag_aload_n dX12_layout_110 rfl ?_
        refine gM_X12_stackSize ho0 fl_X12_172 dX12_layout_111 ?_
        refine ag_iload_n dX12_layout_114 rfl ?_
        refine ag_chk (fun h18 => ?_)
        refine aM_99 (by decide) h18 dX12_layout_115 ?_
        refine ag_imul dX12_layout_116 ?_
        refine ag_iadd dX12_layout_117 ?_
        refine ag_ltI (fun v19 => ?_)
        refine ag_istore_n (L' := [some (.ref (bs + posM 10 o0)), some (.int v19), some (.int v11)]) dX12_layout_118 (by decide) rfl ?_
        refine ag_aload_n dX12_layout_119 rfl ?_
        refine gM_X12_stackEnd ho0 fl_X12_91 dX12_layout_120 ?_
        refine ag_iload_n dX12_layout_123 rfl ?_
        refine ag_iload_n dX12_layout_124 rfl ?_
        refine ag_chk (fun h20 => ?_)
        refine sM_57 (by decide) h20 dX12_layout_125 ?_
        refine ag_ltV (fun V21 => ?_)
        refine ag_iincL (L' := fun v22 => [some (.ref (bs + posM 10 o0)), some (.int v19), some (.int v22)]) dX12_layout_126 (by decide) rfl (by decide) (fun _ => rfl) (fun v22 => ?_)
        refine ag_goto (tgt := 92) dX12_layout_129 (by decide) ?_
        exact ih14 v19 v22 V21
  · refine ag_loop3 (F := f_X12_layout_L4 o0 k1) (L1 := fun v23 v24 V25 => [some (.ref (bs + posM 10 o0)), some (.int v23), some (.int v24)]) (st1 := fun v23 v24 V25 => []) (ws1 := fun v23 v24 V25 => vwM cy bs V25) (fun n26 ih27 v23 v24 V25 => ?_) (fun _ _ _ => rfl) FU 0 0 V
    rw [f_X12_layout_L4]
    refine ag_iload_n dX12_layout_4 rfl ?_
    refine ag_aload_n dX12_layout_5 rfl ?_
    refine gM_X12_compartments ho0 fl_X12_195 dX12_layout_6 ?_
    refine ag_icmp_ge (tgt := 90) dX12_layout_9 (by decide) (fun h28 => ?_) (fun h28 => ?_)
    · refine ag_drop [2] (L' := [some (.ref (bs + posM 10 o0)), some (.int v23), none]) rfl ?_
      exact hk2 v23 V25
    · refine ag_aload_n dX12_layout_12 rfl ?_
      refine gM_X12_codeAt ho0 fl_X12_40 dX12_layout_13 ?_
      refine ag_iload_n dX12_layout_16 rfl ?_
      refine ag_iload_n dX12_layout_17 rfl ?_
      refine ag_chk (fun h29 => ?_)
      refine sM_40 (by decide) h29 dX12_layout_18 ?_
      refine ag_ltV (fun V30 => ?_)
      refine ag_iload_n dX12_layout_19 rfl ?_
      refine ag_iconst (v := 4) dX12_layout_20 (by decide) ?_
      refine ag_aload_n dX12_layout_21 rfl ?_
      refine gM_X12_words ho0 fl_X12_139 dX12_layout_22 ?_
      refine ag_iload_n dX12_layout_25 rfl ?_
      refine ag_chk (fun h31 => ?_)
      refine aM_88 (by decide) h31 dX12_layout_26 ?_
      refine ag_imul dX12_layout_27 ?_
      refine ag_bipush (v := 15) dX12_layout_28 (by decide) ?_
      refine ag_iadd dX12_layout_30 ?_
      refine ag_bipush (v := 16) dX12_layout_31 (by decide) ?_
      refine ag_idiv dX12_layout_33 (by decide) ?_
      refine ag_bipush (v := 16) dX12_layout_34 (by decide) ?_
      refine ag_imul dX12_layout_36 ?_
      refine ag_iadd dX12_layout_37 ?_
      refine ag_ltI (fun v32 => ?_)
      refine ag_istore_n (L' := [some (.ref (bs + posM 10 o0)), some (.int v32), some (.int v24)]) dX12_layout_38 (by decide) rfl ?_
      refine ag_aload_n dX12_layout_39 rfl ?_
      refine gM_X12_importsAt ho0 fl_X12_43 dX12_layout_40 ?_
      refine ag_iload_n dX12_layout_43 rfl ?_
      refine ag_iload_n dX12_layout_44 rfl ?_
      refine ag_chk (fun h33 => ?_)
      refine sM_41 (by decide) h33 dX12_layout_45 ?_
      refine ag_ltV (fun V34 => ?_)
      refine ag_iload_n dX12_layout_46 rfl ?_
      refine ag_bipush (v := 16) dX12_layout_47 (by decide) ?_
      refine ag_aload_n dX12_layout_49 rfl ?_
      refine gM_X12_imports ho0 fl_X12_145 dX12_layout_50 ?_
      refine ag_iload_n dX12_layout_53 rfl ?_
      refine ag_chk (fun h35 => ?_)
      refine aM_90 (by decide) h35 dX12_layout_54 ?_
      refine ag_imul dX12_layout_55 ?_
      refine ag_iadd dX12_layout_56 ?_
      refine ag_ltI (fun v36 => ?_)
      refine ag_istore_n (L' := [some (.ref (bs + posM 10 o0)), some (.int v36), some (.int v24)]) dX12_layout_57 (by decide) rfl ?_
      refine ag_aload_n dX12_layout_58 rfl ?_
      refine gM_X12_globalsAt ho0 fl_X12_46 dX12_layout_59 ?_
      refine ag_iload_n dX12_layout_62 rfl ?_
      refine ag_iload_n dX12_layout_63 rfl ?_
      refine ag_chk (fun h37 => ?_)
      refine sM_42 (by decide) h37 dX12_layout_64 ?_
      refine ag_ltV (fun V38 => ?_)
      refine ag_iload_n dX12_layout_65 rfl ?_
      refine ag_bipush (v := 16) dX12_layout_66 (by decide) ?_
      refine ag_aload_n dX12_layout_68 rfl ?_
      refine gM_X12_globalSize ho0 fl_X12_142 dX12_layout_69 ?_
      refine ag_iload_n dX12_layout_72 rfl ?_
      refine ag_chk (fun h39 => ?_)
      refine aM_89 (by decide) h39 dX12_layout_73 ?_
      refine ag_imul dX12_layout_74 ?_
      refine ag_iadd dX12_layout_75 ?_
      refine ag_ltI (fun v40 => ?_)
      refine ag_istore_n (L' := [some (.ref (bs + posM 10 o0)), some (.int v40), some (.int v24)]) dX12_layout_76 (by decide) rfl ?_
      refine ag_aload_n dX12_layout_77 rfl ?_
      refine gM_X12_endAt ho0 fl_X12_49 dX12_layout_78 ?_
      refine ag_iload_n dX12_layout_81 rfl ?_
      refine ag_iload_n dX12_layout_82 rfl ?_
      refine ag_chk (fun h41 => ?_)
      refine sM_43 (by decide) h41 dX12_layout_83 ?_
      refine ag_ltV (fun V42 => ?_)
      refine ag_iincL (L' := fun v43 => [some (.ref (bs + posM 10 o0)), some (.int v40), some (.int v43)]) dX12_layout_84 (by decide) rfl (by decide) (fun _ => rfl) (fun v43 => ?_)
      refine ag_goto (tgt := 4) dX12_layout_87 (by decide) ?_
      exact ih27 v40 v43 V42
set_option maxRecDepth 100000 in
set_option maxHeartbeats 4000000 in
theorem c_X12_readAll {l : Launch} {D : va_G} {cy : Nat → ClassId} {bs : Nat} {V : HV} (o0 : Nat) (ho0 : o0 < 1) {z : HV} (hz : f_X12_readAll o0 V = some z) : CM l (aG 57 bs) D (tyL cy) (vwM cy bs) yX12_readAll cX12_readAll 5 none 3 72 tvV [.ref (bs + posM 10 o0)] V ((), z) := by
  refine cm_of vwM_D (by decide +kernel) (own := RX12) rfl (Nat.le_of_ble_eq_true rfl) (L := [some (.ref (bs + posM 10 o0)), none, none, none, none]) rfl hz (fun Γ => ?_)
  unfold f_X12_readAll
  refine ag_aload_n dX12_readAll_0 rfl ?_
  refine ag_iconst (v := 0) dX12_readAll_1 (by decide) ?_
  refine pM_X12_at ho0 fl_X12_281 dX12_readAll_2 ?_
  refine ag_ltV (fun V1 => ?_)
  refine ag_aload_n dX12_readAll_5 rfl ?_
  refine ag_aload_n dX12_readAll_6 rfl ?_
  refine ag_iconst (v := 1) dX12_readAll_7 (by decide) ?_
  refine ag_iconst (v := 1) dX12_readAll_8 (by decide) ?_
  refine ag_bipush (v := 8) dX12_readAll_9 (by decide) ?_
  refine ag_bnd (fun p2 hp2 => ?_)
  refine ag_ivIe (c_X12_next o0 1 1 8 ho0 hp2) vwM_D (vwM_at (kpM_10 _ ho0)) rfl cs_X12_291 rfl rfl (Nat.le_of_ble_eq_true rfl) ⟨by decide, by decide⟩ ⟨Nat.zero_le _, Nat.zero_le _⟩ dX12_readAll_11 ?_
  refine pM_X12_compartments ho0 fl_X12_195 dX12_readAll_14 ?_
  refine ag_ltV (fun V3 => ?_)
  refine ag_aload_n dX12_readAll_17 rfl ?_
  refine ag_aload_n dX12_readAll_18 rfl ?_
  refine ag_iconst (v := 1) dX12_readAll_19 (by decide) ?_
  refine ag_iconst (v := 1) dX12_readAll_20 (by decide) ?_
  refine ag_bipush (v := 6) dX12_readAll_21 (by decide) ?_
  refine ag_bnd (fun p4 hp4 => ?_)
  refine ag_ivIe (c_X12_next o0 1 1 6 ho0 hp4) vwM_D (vwM_at (kpM_10 _ ho0)) rfl cs_X12_291 rfl rfl (Nat.le_of_ble_eq_true rfl) ⟨by decide, by decide⟩ ⟨Nat.zero_le _, Nat.zero_le _⟩ dX12_readAll_23 ?_
  refine pM_X12_threads ho0 fl_X12_198 dX12_readAll_26 ?_
  refine ag_ltV (fun V5 => ?_)
  refine ag_iconst (v := 0) dX12_readAll_29 (by decide) ?_
  refine ag_istore_n (L' := [some (.ref (bs + posM 10 o0)), some (.int 0), none, none, none]) dX12_readAll_30 (by decide) rfl ?_
  refine ag_jn1 (j := 57) (L1 := fun V8 => [some (.ref (bs + posM 10 o0)), none, none, none, none]) (st1 := fun V8 => []) (ws1 := fun V8 => vwM cy bs V8) (fun V8 => ?_) (fun k6 hk7 => ?_)
  · refine ag_iconst (v := 0) dX12_readAll_57 (by decide) ?_
    refine ag_istore_n (L' := [some (.ref (bs + posM 10 o0)), some (.int 0), none, none, none]) dX12_readAll_58 (by decide) rfl ?_
    refine ag_jn1 (j := 162) (L1 := fun V11 => [some (.ref (bs + posM 10 o0)), none, none, none, none]) (st1 := fun V11 => []) (ws1 := fun V11 => vwM cy bs V11) (fun V11 => ?_) (fun k9 hk10 => ?_)
    · refine ag_aload_n dX12_readAll_162 rfl ?_
      refine gM_X12_fault ho0 fl_X12_278 dX12_readAll_163 ?_
      refine ag_if_eq (tgt := 170) dX12_readAll_166 (by decide) (fun h12 => ?_) (fun h12 => ?_)
      · refine ag_iconst (v := 0) dX12_readAll_170 (by decide) ?_
        refine ag_istore_n (L' := [some (.ref (bs + posM 10 o0)), some (.int 0), none, none, none]) dX12_readAll_171 (by decide) rfl ?_
        refine ag_jn1 (j := 321) (L1 := fun V15 => [some (.ref (bs + posM 10 o0)), none, none, none, none]) (st1 := fun V15 => []) (ws1 := fun V15 => vwM cy bs V15) (fun V15 => ?_) (fun k13 hk14 => ?_)
        · refine ag_iconst (v := 0) dX12_readAll_321 (by decide) ?_
          refine ag_istore_n (L' := [some (.ref (bs + posM 10 o0)), some (.int 0), none, none, none]) dX12_readAll_322 (by decide) rfl ?_
          refine ag_jn1 (j := 408) (L1 := fun V18 => [some (.ref (bs + posM 10 o0)), none, none, none, none]) (st1 := fun V18 => []) (ws1 := fun V18 => vwM cy bs V18) (fun V18 => ?_) (fun k16 hk17 => ?_)
          · refine ag_aload_n dX12_readAll_408 rfl ?_
            refine gM_X12_at ho0 fl_X12_281 dX12_readAll_409 ?_
            refine ag_aload_n dX12_readAll_412 rfl ?_
            refine gM_X12_imageSize ho0 fl_X12_284 dX12_readAll_413 ?_
            refine ag_jn1 (j := 428) (L1 := fun V19 => [some (.ref (bs + posM 10 o0)), none, none, none, none]) (st1 := fun V19 => []) (ws1 := fun V19 => vwM cy bs V19) (fun V19 => ?_) (fun k20 hk21 => ?_)
            · refine ag_aload_n dX12_readAll_428 rfl ?_
              refine ag_bnd (fun p22 hp22 => ?_)
              refine ag_ivVe (c_X12_layout o0 ho0 hp22) vwM_D (vwM_at (kpM_10 _ ho0)) rfl cs_X12_298 rfl rfl (Nat.le_of_ble_eq_true rfl) ⟨by decide, by decide⟩ ⟨Nat.zero_le _, Nat.zero_le _⟩ dX12_readAll_429 ?_
              refine ag_aload_n dX12_readAll_432 rfl ?_
              refine gM_X12_heapAt ho0 fl_X12_222 dX12_readAll_433 ?_
              refine ag_aload_n dX12_readAll_436 rfl ?_
              refine gM_X12_size ho0 fl_X12_175 dX12_readAll_437 ?_
              refine ag_bipush (v := 16) dX12_readAll_440 (by decide) ?_
              refine ag_isub dX12_readAll_442 ?_
              refine ag_icmp_le (tgt := 455) dX12_readAll_443 (by decide) (fun h23 => ?_) (fun h23 => ?_)
              · exact ag_vrep dX12_readAll_455
              · refine ag_aload_n dX12_readAll_446 rfl ?_
                refine ag_iconst (v := 5) dX12_readAll_447 (by decide) ?_
                refine ag_aload_n dX12_readAll_448 rfl ?_
                refine gM_X12_imageSize ho0 fl_X12_284 dX12_readAll_449 ?_
                refine ag_ivVe (c_X12_fails o0 5 (p22 1013 o0 0) ho0 rfl) vwM_D (vwM_at (kpM_10 _ ho0)) rfl cs_X12_287 rfl rfl (Nat.le_of_ble_eq_true rfl) ⟨by decide, by decide⟩ ⟨Nat.zero_le _, Nat.zero_le _⟩ dX12_readAll_452 ?_
                refine ag_ltV (fun V24 => ?_)
                exact ag_vrep dX12_readAll_455
            · refine ag_icmp_ge (tgt := 428) dX12_readAll_416 (by decide) (fun h25 => ?_) (fun h25 => ?_)
              · exact hk21 V18
              · refine ag_aload_n dX12_readAll_419 rfl ?_
                refine ag_iconst (v := 4) dX12_readAll_420 (by decide) ?_
                refine ag_aload_n dX12_readAll_421 rfl ?_
                refine gM_X12_at ho0 fl_X12_281 dX12_readAll_422 ?_
                refine ag_ivVe (c_X12_fails o0 4 (V18 1014 o0 0) ho0 rfl) vwM_D (vwM_at (kpM_10 _ ho0)) rfl cs_X12_287 rfl rfl (Nat.le_of_ble_eq_true rfl) ⟨by decide, by decide⟩ ⟨Nat.zero_le _, Nat.zero_le _⟩ dX12_readAll_425 ?_
                refine ag_ltV (fun V26 => ?_)
                exact hk21 V26
          · refine ag_loop2 (F := f_X12_readAll_L323 o0 k16) (L1 := fun v27 V28 => [some (.ref (bs + posM 10 o0)), some (.int v27), none, none, none]) (st1 := fun v27 V28 => []) (ws1 := fun v27 V28 => vwM cy bs V28) (fun n29 ih30 v27 V28 => ?_) (fun _ _ => rfl) FU 0 V15
            rw [f_X12_readAll_L323]
            refine ag_iload_n dX12_readAll_323 rfl ?_
            refine ag_aload_n dX12_readAll_324 rfl ?_
            refine gM_X12_threads ho0 fl_X12_198 dX12_readAll_325 ?_
            refine ag_icmp_ge (tgt := 408) dX12_readAll_328 (by decide) (fun h31 => ?_) (fun h31 => ?_)
            · refine ag_drop [1] (L' := [some (.ref (bs + posM 10 o0)), none, none, none, none]) rfl ?_
              exact hk17 V28
            · refine ag_aload_n dX12_readAll_331 rfl ?_
              refine gM_X12_threadHome ho0 fl_X12_166 dX12_readAll_332 ?_
              refine ag_iload_n dX12_readAll_335 rfl ?_
              refine ag_chk (fun h32 => ?_)
              refine aM_97 (by decide) h32 dX12_readAll_336 ?_
              refine ag_aload_n dX12_readAll_337 rfl ?_
              refine gM_X12_compartments ho0 fl_X12_195 dX12_readAll_338 ?_
              refine ag_dv (j := 349) (L1 := fun _ => [some (.ref (bs + posM 10 o0)), some (.int v27), none, none, none]) (st1 := fun v33 => [.int (b2i v33)]) (ws1 := fun _ => vwM cy bs V28) (fun v33 => ?_) (fun k52 hk34 => ?_)
              · refine ag_istore_n (L' := [some (.ref (bs + posM 10 o0)), some (.int v27), some (.int (b2i v33)), none, none]) dX12_readAll_349 (by decide) rfl ?_
                refine ag_iload_n dX12_readAll_350 rfl ?_
                refine ag_jn1 (j := 365) (L1 := fun V35 => [some (.ref (bs + posM 10 o0)), some (.int v27), some (.int (b2i v33)), none, none]) (st1 := fun V35 => []) (ws1 := fun V35 => vwM cy bs V35) (fun V35 => ?_) (fun k36 hk37 => ?_)
                · refine ag_iload_n dX12_readAll_365 rfl ?_
                  refine ag_jn1 (j := 402) (L1 := fun V38 => [some (.ref (bs + posM 10 o0)), some (.int v27), some (.int (b2i v33)), none, none]) (st1 := fun V38 => []) (ws1 := fun V38 => vwM cy bs V38) (fun V38 => ?_) (fun k39 hk40 => ?_)
                  · refine ag_iincL (L' := fun v41 => [some (.ref (bs + posM 10 o0)), some (.int v41), some (.int (b2i v33)), none, none]) dX12_readAll_402 (by decide) rfl (by decide) (fun _ => rfl) (fun v41 => ?_)
                    refine ag_goto (tgt := 323) dX12_readAll_405 (by decide) ?_
                    refine ag_drop [2] (L' := [some (.ref (bs + posM 10 o0)), some (.int v41), none, none, none]) rfl ?_
                    exact ih30 v41 V38
                  · refine ag_bif_eq (tgt := 402) dX12_readAll_366 (by decide) (fun h42 => ?_) (fun h42 => ?_)
                    · exact hk40 V35
                    · refine ag_aload_n dX12_readAll_369 rfl ?_
                      refine gM_X12_threadExport ho0 fl_X12_169 dX12_readAll_370 ?_
                      refine ag_iload_n dX12_readAll_373 rfl ?_
                      refine ag_chk (fun h43 => ?_)
                      refine aM_98 (by decide) h43 dX12_readAll_374 ?_
                      refine ag_aload_n dX12_readAll_375 rfl ?_
                      refine gM_X12_exports ho0 fl_X12_52 dX12_readAll_376 ?_
                      refine ag_aload_n dX12_readAll_379 rfl ?_
                      refine gM_X12_threadHome ho0 fl_X12_166 dX12_readAll_380 ?_
                      refine ag_iload_n dX12_readAll_383 rfl ?_
                      refine ag_chk (fun h44 => ?_)
                      refine aM_97 (by decide) h44 dX12_readAll_384 ?_
                      refine ag_chk (fun h45 => ?_)
                      refine aM_44 (by decide) h45 dX12_readAll_385 ?_
                      refine ag_icmp_lt (tgt := 402) dX12_readAll_386 (by decide) (fun h46 => ?_) (fun h46 => ?_)
                      · exact hk40 V35
                      · refine ag_aload_n dX12_readAll_389 rfl ?_
                        refine ag_iconst (v := 3) dX12_readAll_390 (by decide) ?_
                        refine ag_aload_n dX12_readAll_391 rfl ?_
                        refine gM_X12_threadPlace ho0 fl_X12_163 dX12_readAll_392 ?_
                        refine ag_iload_n dX12_readAll_395 rfl ?_
                        refine ag_chk (fun h47 => ?_)
                        refine aM_96 (by decide) h47 dX12_readAll_396 ?_
                        refine ag_iconst (v := 1) dX12_readAll_397 (by decide) ?_
                        refine ag_iadd dX12_readAll_398 ?_
                        refine ag_ivVe (c_X12_fails o0 3 ((V35 9600 0 (v27).toNatClampNeg) + 1) ho0 rfl) vwM_D (vwM_at (kpM_10 _ ho0)) rfl cs_X12_287 rfl rfl (Nat.le_of_ble_eq_true rfl) ⟨by decide, by decide⟩ ⟨Nat.zero_le _, Nat.zero_le _⟩ dX12_readAll_399 ?_
                        refine ag_ltV (fun V48 => ?_)
                        exact hk40 V48
                · refine ag_bif_ne (tgt := 365) dX12_readAll_351 (by decide) (fun h49 => ?_) (fun h49 => ?_)
                  · exact hk37 V28
                  · refine ag_aload_n dX12_readAll_354 rfl ?_
                    refine ag_iconst (v := 3) dX12_readAll_355 (by decide) ?_
                    refine ag_aload_n dX12_readAll_356 rfl ?_
                    refine gM_X12_threadPlace ho0 fl_X12_163 dX12_readAll_357 ?_
                    refine ag_iload_n dX12_readAll_360 rfl ?_
                    refine ag_chk (fun h50 => ?_)
                    refine aM_96 (by decide) h50 dX12_readAll_361 ?_
                    refine ag_ivVe (c_X12_fails o0 3 (V28 9600 0 (v27).toNatClampNeg) ho0 rfl) vwM_D (vwM_at (kpM_10 _ ho0)) rfl cs_X12_287 rfl rfl (Nat.le_of_ble_eq_true rfl) ⟨by decide, by decide⟩ ⟨Nat.zero_le _, Nat.zero_le _⟩ dX12_readAll_362 ?_
                    refine ag_ltV (fun V51 => ?_)
                    exact hk37 V51
              · refine ag_icmp_ge_v (tgt := 348) dX12_readAll_341 (by decide) (fun h53 => ?_) (fun h53 => ?_)
                · refine ag_iconst (v := 0) dX12_readAll_348 (by decide) ?_
                  exact hk34 false
                · refine ag_iconst (v := 1) dX12_readAll_344 (by decide) ?_
                  refine ag_goto (tgt := 349) dX12_readAll_345 (by decide) ?_
                  exact hk34 true
        · refine ag_loop2 (F := f_X12_readAll_L172 o0 k13) (L1 := fun v54 V55 => [some (.ref (bs + posM 10 o0)), some (.int v54), none, none, none]) (st1 := fun v54 V55 => []) (ws1 := fun v54 V55 => vwM cy bs V55) (fun n56 ih57 v54 V55 => ?_) (fun _ _ => rfl) FU 0 V11
          rw [f_X12_readAll_L172]
          refine ag_iload_n dX12_readAll_172 rfl ?_
          refine ag_aload_n dX12_readAll_173 rfl ?_
          refine gM_X12_compartments ho0 fl_X12_195 dX12_readAll_174 ?_
          refine ag_icmp_ge (tgt := 321) dX12_readAll_177 (by decide) (fun h58 => ?_) (fun h58 => ?_)
          · refine ag_drop [1] (L' := [some (.ref (bs + posM 10 o0)), none, none, none, none]) rfl ?_
            exact hk14 V55
          · refine ag_bipush (v := 16) dX12_readAll_180 (by decide) ?_
            refine ag_iload_n dX12_readAll_182 rfl ?_
            refine ag_imul dX12_readAll_183 ?_
            refine ag_ltI (fun v59 => ?_)
            refine ag_istore_n (L' := [some (.ref (bs + posM 10 o0)), some (.int v54), some (.int v59), none, none]) dX12_readAll_184 (by decide) rfl ?_
            refine ag_jn1 (j := 315) (L1 := fun V62 => [some (.ref (bs + posM 10 o0)), some (.int v54), none, none, none]) (st1 := fun V62 => []) (ws1 := fun V62 => vwM cy bs V62) (fun V62 => ?_) (fun k60 hk61 => ?_)
            · refine ag_iincL (L' := fun v63 => [some (.ref (bs + posM 10 o0)), some (.int v63), none, none, none]) dX12_readAll_315 (by decide) rfl (by decide) (fun _ => rfl) (fun v63 => ?_)
              refine ag_goto (tgt := 172) dX12_readAll_318 (by decide) ?_
              exact ih57 v63 V62
            · refine ag_loop2 (F := f_X12_readAll_L185 o0 v54 k60) (L1 := fun v64 V65 => [some (.ref (bs + posM 10 o0)), some (.int v54), some (.int v64), none, none]) (st1 := fun v64 V65 => []) (ws1 := fun v64 V65 => vwM cy bs V65) (fun n66 ih67 v64 V65 => ?_) (fun _ _ => rfl) FU v59 V55
              rw [f_X12_readAll_L185]
              refine ag_iload_n dX12_readAll_185 rfl ?_
              refine ag_bipush (v := 16) dX12_readAll_186 (by decide) ?_
              refine ag_iload_n dX12_readAll_188 rfl ?_
              refine ag_imul dX12_readAll_189 ?_
              refine ag_aload_n dX12_readAll_190 rfl ?_
              refine gM_X12_imports ho0 fl_X12_145 dX12_readAll_191 ?_
              refine ag_iload_n dX12_readAll_194 rfl ?_
              refine ag_chk (fun h68 => ?_)
              refine aM_90 (by decide) h68 dX12_readAll_195 ?_
              refine ag_iadd dX12_readAll_196 ?_
              refine ag_icmp_ge (tgt := 315) dX12_readAll_197 (by decide) (fun h69 => ?_) (fun h69 => ?_)
              · refine ag_drop [2] (L' := [some (.ref (bs + posM 10 o0)), some (.int v54), none, none, none]) rfl ?_
                exact hk61 V65
              · refine ag_aload_n dX12_readAll_200 rfl ?_
                refine gM_X12_importKind ho0 fl_X12_148 dX12_readAll_201 ?_
                refine ag_iload_n dX12_readAll_204 rfl ?_
                refine ag_chk (fun h70 => ?_)
                refine aM_91 (by decide) h70 dX12_readAll_205 ?_
                refine ag_dv (j := 214) (L1 := fun _ => [some (.ref (bs + posM 10 o0)), some (.int v54), some (.int v64), none, none]) (st1 := fun v71 => [.int (b2i v71)]) (ws1 := fun _ => vwM cy bs V65) (fun v71 => ?_) (fun k103 hk72 => ?_)
                · refine ag_istore_n (L' := [some (.ref (bs + posM 10 o0)), some (.int v54), some (.int v64), some (.int (b2i v71)), none]) dX12_readAll_214 (by decide) rfl ?_
                  refine ag_iload_n dX12_readAll_215 rfl ?_
                  refine ag_jn1 (j := 247) (L1 := fun v73 => [some (.ref (bs + posM 10 o0)), some (.int v54), some (.int v64), some (.int (b2i v71)), none]) (st1 := fun v73 => [.int (b2i v73)]) (ws1 := fun v73 => vwM cy bs V65) (fun v73 => ?_) (fun k74 hk75 => ?_)
                  · refine ag_istore (L' := [some (.ref (bs + posM 10 o0)), some (.int v54), some (.int v64), some (.int (b2i v71)), some (.int (b2i v73))]) dX12_readAll_247 (by decide) rfl ?_
                    refine ag_iload dX12_readAll_249 rfl ?_
                    refine ag_jn1 (j := 267) (L1 := fun V76 => [some (.ref (bs + posM 10 o0)), some (.int v54), some (.int v64), some (.int (b2i v71)), some (.int (b2i v73))]) (st1 := fun V76 => []) (ws1 := fun V76 => vwM cy bs V76) (fun V76 => ?_) (fun k77 hk78 => ?_)
                    · refine ag_iload dX12_readAll_267 rfl ?_
                      refine ag_jn1 (j := 309) (L1 := fun V79 => [some (.ref (bs + posM 10 o0)), some (.int v54), some (.int v64), some (.int (b2i v71)), some (.int (b2i v73))]) (st1 := fun V79 => []) (ws1 := fun V79 => vwM cy bs V79) (fun V79 => ?_) (fun k80 hk81 => ?_)
                      · refine ag_iincL (L' := fun v82 => [some (.ref (bs + posM 10 o0)), some (.int v54), some (.int v82), some (.int (b2i v71)), some (.int (b2i v73))]) dX12_readAll_309 (by decide) rfl (by decide) (fun _ => rfl) (fun v82 => ?_)
                        refine ag_goto (tgt := 185) dX12_readAll_312 (by decide) ?_
                        refine ag_drop [3, 4] (L' := [some (.ref (bs + posM 10 o0)), some (.int v54), some (.int v82), none, none]) rfl ?_
                        exact ih67 v82 V79
                      · refine ag_bif_eq (tgt := 309) dX12_readAll_269 (by decide) (fun h83 => ?_) (fun h83 => ?_)
                        · exact hk81 V76
                        · refine ag_iload_n dX12_readAll_272 rfl ?_
                          refine ag_bif_eq (tgt := 309) dX12_readAll_273 (by decide) (fun h84 => ?_) (fun h84 => ?_)
                          · exact hk81 V76
                          · refine ag_aload_n dX12_readAll_276 rfl ?_
                            refine gM_X12_importY ho0 fl_X12_154 dX12_readAll_277 ?_
                            refine ag_iload_n dX12_readAll_280 rfl ?_
                            refine ag_chk (fun h85 => ?_)
                            refine aM_93 (by decide) h85 dX12_readAll_281 ?_
                            refine ag_aload_n dX12_readAll_282 rfl ?_
                            refine gM_X12_exports ho0 fl_X12_52 dX12_readAll_283 ?_
                            refine ag_aload_n dX12_readAll_286 rfl ?_
                            refine gM_X12_importX ho0 fl_X12_151 dX12_readAll_287 ?_
                            refine ag_iload_n dX12_readAll_290 rfl ?_
                            refine ag_chk (fun h86 => ?_)
                            refine aM_92 (by decide) h86 dX12_readAll_291 ?_
                            refine ag_chk (fun h87 => ?_)
                            refine aM_44 (by decide) h87 dX12_readAll_292 ?_
                            refine ag_icmp_lt (tgt := 309) dX12_readAll_293 (by decide) (fun h88 => ?_) (fun h88 => ?_)
                            · exact hk81 V76
                            · refine ag_aload_n dX12_readAll_296 rfl ?_
                              refine ag_iconst (v := 3) dX12_readAll_297 (by decide) ?_
                              refine ag_aload_n dX12_readAll_298 rfl ?_
                              refine gM_X12_importPlace ho0 fl_X12_157 dX12_readAll_299 ?_
                              refine ag_iload_n dX12_readAll_302 rfl ?_
                              refine ag_chk (fun h89 => ?_)
                              refine aM_94 (by decide) h89 dX12_readAll_303 ?_
                              refine ag_iconst (v := 2) dX12_readAll_304 (by decide) ?_
                              refine ag_iadd dX12_readAll_305 ?_
                              refine ag_ivVe (c_X12_fails o0 3 ((V76 9400 0 (v64).toNatClampNeg) + 2) ho0 rfl) vwM_D (vwM_at (kpM_10 _ ho0)) rfl cs_X12_287 rfl rfl (Nat.le_of_ble_eq_true rfl) ⟨by decide, by decide⟩ ⟨Nat.zero_le _, Nat.zero_le _⟩ dX12_readAll_306 ?_
                              refine ag_ltV (fun V90 => ?_)
                              exact hk81 V90
                    · refine ag_bif_ne (tgt := 267) dX12_readAll_251 (by decide) (fun h91 => ?_) (fun h91 => ?_)
                      · exact hk78 V65
                      · refine ag_aload_n dX12_readAll_254 rfl ?_
                        refine ag_iconst (v := 3) dX12_readAll_255 (by decide) ?_
                        refine ag_aload_n dX12_readAll_256 rfl ?_
                        refine gM_X12_importPlace ho0 fl_X12_157 dX12_readAll_257 ?_
                        refine ag_iload_n dX12_readAll_260 rfl ?_
                        refine ag_chk (fun h92 => ?_)
                        refine aM_94 (by decide) h92 dX12_readAll_261 ?_
                        refine ag_iconst (v := 1) dX12_readAll_262 (by decide) ?_
                        refine ag_iadd dX12_readAll_263 ?_
                        refine ag_ivVe (c_X12_fails o0 3 ((V65 9400 0 (v64).toNatClampNeg) + 1) ho0 rfl) vwM_D (vwM_at (kpM_10 _ ho0)) rfl cs_X12_287 rfl rfl (Nat.le_of_ble_eq_true rfl) ⟨by decide, by decide⟩ ⟨Nat.zero_le _, Nat.zero_le _⟩ dX12_readAll_264 ?_
                        refine ag_ltV (fun V93 => ?_)
                        exact hk78 V93
                  · refine ag_jn0 (j := 242) (L1 := [some (.ref (bs + posM 10 o0)), some (.int v54), some (.int v64), some (.int (b2i v71)), none]) (st1 := []) (ws1 := vwM cy bs V65) (?_) (fun k94 hk95 => ?_)
                    · refine ag_iconst (v := 1) dX12_readAll_242 (by decide) ?_
                      refine ag_goto (tgt := 247) dX12_readAll_243 (by decide) ?_
                      exact hk75 true
                    · refine ag_jn0 (j := 229) (L1 := [some (.ref (bs + posM 10 o0)), some (.int v54), some (.int v64), some (.int (b2i v71)), none]) (st1 := []) (ws1 := vwM cy bs V65) (?_) (fun k96 hk97 => ?_)
                      · refine ag_aload_n dX12_readAll_229 rfl ?_
                        refine gM_X12_importX ho0 fl_X12_151 dX12_readAll_230 ?_
                        refine ag_iload_n dX12_readAll_233 rfl ?_
                        refine ag_chk (fun h98 => ?_)
                        refine aM_92 (by decide) h98 dX12_readAll_234 ?_
                        refine ag_aload_n dX12_readAll_235 rfl ?_
                        refine gM_X12_compartments ho0 fl_X12_195 dX12_readAll_236 ?_
                        refine ag_icmp_ge (tgt := 246) dX12_readAll_239 (by decide) (fun h99 => ?_) (fun h99 => ?_)
                        · refine ag_iconst (v := 0) dX12_readAll_246 (by decide) ?_
                          exact hk75 false
                        · exact hk95
                      · refine ag_bif_ne (tgt := 229) dX12_readAll_216 (by decide) (fun h100 => ?_) (fun h100 => ?_)
                        · exact hk97
                        · refine ag_aload_n dX12_readAll_219 rfl ?_
                          refine gM_X12_importKind ho0 fl_X12_148 dX12_readAll_220 ?_
                          refine ag_iload_n dX12_readAll_223 rfl ?_
                          refine ag_chk (fun h101 => ?_)
                          refine aM_91 (by decide) h101 dX12_readAll_224 ?_
                          refine ag_iconst (v := 4) dX12_readAll_225 (by decide) ?_
                          refine ag_icmp_ne (tgt := 242) dX12_readAll_226 (by decide) (fun h102 => ?_) (fun h102 => ?_)
                          · exact hk95
                          · exact hk97
                · refine ag_if_ne_v (tgt := 213) dX12_readAll_206 (by decide) (fun h104 => ?_) (fun h104 => ?_)
                  · refine ag_iconst (v := 0) dX12_readAll_213 (by decide) ?_
                    exact hk72 false
                  · refine ag_iconst (v := 1) dX12_readAll_209 (by decide) ?_
                    refine ag_goto (tgt := 214) dX12_readAll_210 (by decide) ?_
                    exact hk72 true
      · exact ag_vrep dX12_readAll_169
    · refine ag_loop2 (F := f_X12_readAll_L59 o0 k9) (L1 := fun v105 V106 => [some (.ref (bs + posM 10 o0)), some (.int v105), none, none, none]) (st1 := fun v105 V106 => []) (ws1 := fun v105 V106 => vwM cy bs V106) (fun n107 ih108 v105 V106 => ?_) (fun _ _ => rfl) FU 0 V8
      rw [f_X12_readAll_L59]
      refine ag_iload_n dX12_readAll_59 rfl ?_
      refine ag_aload_n dX12_readAll_60 rfl ?_
      refine gM_X12_threads ho0 fl_X12_198 dX12_readAll_61 ?_
      refine ag_icmp_ge (tgt := 162) dX12_readAll_64 (by decide) (fun h109 => ?_) (fun h109 => ?_)
      · refine ag_drop [1] (L' := [some (.ref (bs + posM 10 o0)), none, none, none, none]) rfl ?_
        exact hk10 V106
      · refine ag_aload_n dX12_readAll_67 rfl ?_
        refine gM_X12_fault ho0 fl_X12_278 dX12_readAll_68 ?_
        refine ag_if_ne (tgt := 162) dX12_readAll_71 (by decide) (fun h110 => ?_) (fun h110 => ?_)
        · refine ag_drop [1] (L' := [some (.ref (bs + posM 10 o0)), none, none, none, none]) rfl ?_
          exact hk10 V106
        · refine ag_aload_n dX12_readAll_74 rfl ?_
          refine gM_X12_threadPlace ho0 fl_X12_163 dX12_readAll_75 ?_
          refine ag_iload_n dX12_readAll_78 rfl ?_
          refine ag_aload_n dX12_readAll_79 rfl ?_
          refine gM_X12_at ho0 fl_X12_281 dX12_readAll_80 ?_
          refine ag_chk (fun h111 => ?_)
          refine sM_96 (by decide) h111 dX12_readAll_83 ?_
          refine ag_ltV (fun V112 => ?_)
          refine ag_aload_n dX12_readAll_84 rfl ?_
          refine gM_X12_threadHome ho0 fl_X12_166 dX12_readAll_85 ?_
          refine ag_iload_n dX12_readAll_88 rfl ?_
          refine ag_aload_n dX12_readAll_89 rfl ?_
          refine ag_iconst (v := 1) dX12_readAll_90 (by decide) ?_
          refine ag_iconst (v := 0) dX12_readAll_91 (by decide) ?_
          refine ag_sipush (v := 255) dX12_readAll_92 (by decide) ?_
          refine ag_bnd (fun p113 hp113 => ?_)
          refine ag_ivIe (c_X12_next o0 1 0 255 ho0 hp113) vwM_D (vwM_at (kpM_10 _ ho0)) rfl cs_X12_291 rfl rfl (Nat.le_of_ble_eq_true rfl) ⟨by decide, by decide⟩ ⟨Nat.zero_le _, Nat.zero_le _⟩ dX12_readAll_95 ?_
          refine ag_chk (fun h114 => ?_)
          refine sM_97 (by decide) h114 dX12_readAll_98 ?_
          refine ag_ltV (fun V115 => ?_)
          refine ag_aload_n dX12_readAll_99 rfl ?_
          refine gM_X12_threadExport ho0 fl_X12_169 dX12_readAll_100 ?_
          refine ag_iload_n dX12_readAll_103 rfl ?_
          refine ag_aload_n dX12_readAll_104 rfl ?_
          refine ag_iconst (v := 1) dX12_readAll_105 (by decide) ?_
          refine ag_iconst (v := 0) dX12_readAll_106 (by decide) ?_
          refine ag_sipush (v := 255) dX12_readAll_107 (by decide) ?_
          refine ag_bnd (fun p116 hp116 => ?_)
          refine ag_ivIe (c_X12_next o0 1 0 255 ho0 hp116) vwM_D (vwM_at (kpM_10 _ ho0)) rfl cs_X12_291 rfl rfl (Nat.le_of_ble_eq_true rfl) ⟨by decide, by decide⟩ ⟨Nat.zero_le _, Nat.zero_le _⟩ dX12_readAll_110 ?_
          refine ag_chk (fun h117 => ?_)
          refine sM_98 (by decide) h117 dX12_readAll_113 ?_
          refine ag_ltV (fun V118 => ?_)
          refine ag_aload_n dX12_readAll_114 rfl ?_
          refine gM_X12_priority ho0 fl_X12_85 dX12_readAll_115 ?_
          refine ag_iload_n dX12_readAll_118 rfl ?_
          refine ag_aload_n dX12_readAll_119 rfl ?_
          refine ag_iconst (v := 1) dX12_readAll_120 (by decide) ?_
          refine ag_iconst (v := 0) dX12_readAll_121 (by decide) ?_
          refine ag_bipush (v := 7) dX12_readAll_122 (by decide) ?_
          refine ag_bnd (fun p119 hp119 => ?_)
          refine ag_ivIe (c_X12_next o0 1 0 7 ho0 hp119) vwM_D (vwM_at (kpM_10 _ ho0)) rfl cs_X12_291 rfl rfl (Nat.le_of_ble_eq_true rfl) ⟨by decide, by decide⟩ ⟨Nat.zero_le _, Nat.zero_le _⟩ dX12_readAll_124 ?_
          refine ag_chk (fun h120 => ?_)
          refine sM_55 (by decide) h120 dX12_readAll_127 ?_
          refine ag_ltV (fun V121 => ?_)
          refine ag_aload_n dX12_readAll_128 rfl ?_
          refine gM_X12_stackSize ho0 fl_X12_172 dX12_readAll_129 ?_
          refine ag_iload_n dX12_readAll_132 rfl ?_
          refine ag_aload_n dX12_readAll_133 rfl ?_
          refine ag_iconst (v := 1) dX12_readAll_134 (by decide) ?_
          refine ag_iconst (v := 1) dX12_readAll_135 (by decide) ?_
          refine ag_bipush (v := 32) dX12_readAll_136 (by decide) ?_
          refine ag_bnd (fun p122 hp122 => ?_)
          refine ag_ivIe (c_X12_next o0 1 1 32 ho0 hp122) vwM_D (vwM_at (kpM_10 _ ho0)) rfl cs_X12_291 rfl rfl (Nat.le_of_ble_eq_true rfl) ⟨by decide, by decide⟩ ⟨Nat.zero_le _, Nat.zero_le _⟩ dX12_readAll_138 ?_
          refine ag_chk (fun h123 => ?_)
          refine sM_99 (by decide) h123 dX12_readAll_141 ?_
          refine ag_ltV (fun V124 => ?_)
          refine ag_aload_n dX12_readAll_142 rfl ?_
          refine gM_X12_most ho0 fl_X12_73 dX12_readAll_143 ?_
          refine ag_iload_n dX12_readAll_146 rfl ?_
          refine ag_aload_n dX12_readAll_147 rfl ?_
          refine ag_iconst (v := 1) dX12_readAll_148 (by decide) ?_
          refine ag_iconst (v := 0) dX12_readAll_149 (by decide) ?_
          refine ag_bipush (v := 16) dX12_readAll_150 (by decide) ?_
          refine ag_bnd (fun p125 hp125 => ?_)
          refine ag_ivIe (c_X12_next o0 1 0 16 ho0 hp125) vwM_D (vwM_at (kpM_10 _ ho0)) rfl cs_X12_291 rfl rfl (Nat.le_of_ble_eq_true rfl) ⟨by decide, by decide⟩ ⟨Nat.zero_le _, Nat.zero_le _⟩ dX12_readAll_152 ?_
          refine ag_chk (fun h126 => ?_)
          refine sM_51 (by decide) h126 dX12_readAll_155 ?_
          refine ag_ltV (fun V127 => ?_)
          refine ag_iincL (L' := fun v128 => [some (.ref (bs + posM 10 o0)), some (.int v128), none, none, none]) dX12_readAll_156 (by decide) rfl (by decide) (fun _ => rfl) (fun v128 => ?_)
          refine ag_goto (tgt := 59) dX12_readAll_159 (by decide) ?_
          exact ih108 v128 V127
  · refine ag_loop2 (F := f_X12_readAll_L31 o0 k6) (L1 := fun v129 V130 => [some (.ref (bs + posM 10 o0)), some (.int v129), none, none, none]) (st1 := fun v129 V130 => []) (ws1 := fun v129 V130 => vwM cy bs V130) (fun n131 ih132 v129 V130 => ?_) (fun _ _ => rfl) FU 0 V5
    rw [f_X12_readAll_L31]
    refine ag_iload_n dX12_readAll_31 rfl ?_
    refine ag_aload_n dX12_readAll_32 rfl ?_
    refine gM_X12_compartments ho0 fl_X12_195 dX12_readAll_33 ?_
    refine ag_icmp_ge (tgt := 57) dX12_readAll_36 (by decide) (fun h133 => ?_) (fun h133 => ?_)
    · refine ag_drop [1] (L' := [some (.ref (bs + posM 10 o0)), none, none, none, none]) rfl ?_
      exact hk7 V130
    · refine ag_aload_n dX12_readAll_39 rfl ?_
      refine gM_X12_fault ho0 fl_X12_278 dX12_readAll_40 ?_
      refine ag_if_ne (tgt := 57) dX12_readAll_43 (by decide) (fun h134 => ?_) (fun h134 => ?_)
      · refine ag_drop [1] (L' := [some (.ref (bs + posM 10 o0)), none, none, none, none]) rfl ?_
        exact hk7 V130
      · refine ag_aload_n dX12_readAll_46 rfl ?_
        refine ag_iload_n dX12_readAll_47 rfl ?_
        refine ag_bnd (fun p135 hp135 => ?_)
        refine ag_ivVe (c_X12_readCompartment o0 v129 ho0 hp135) vwM_D (vwM_at (kpM_10 _ ho0)) rfl cs_X12_295 rfl rfl (Nat.le_of_ble_eq_true rfl) ⟨by decide, by decide⟩ ⟨Nat.zero_le _, Nat.zero_le _⟩ dX12_readAll_48 ?_
        refine ag_iincL (L' := fun v136 => [some (.ref (bs + posM 10 o0)), some (.int v136), none, none, none]) dX12_readAll_51 (by decide) rfl (by decide) (fun _ => rfl) (fun v136 => ?_)
        refine ag_goto (tgt := 31) dX12_readAll_54 (by decide) ?_
        exact ih132 v136 p135
