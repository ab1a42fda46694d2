set_option maxRecDepth 100000 in
set_option maxHeartbeats 4000000 in
theorem c_X2_isLegalCapability {l : Launch} {D : va_G} {cy : Nat → ClassId} {bs kb : Nat} {V : HV} (x0 : Int32) (x1 : Int32) (x2 : Int32) {z : Bool} (hz : f_X2_isLegalCapability x0 x1 x2 = z) : CM l (aG 737 bs) D (tyL cy) (vwC cy bs kb) yX2_isLegalCapability cX2_isLegalCapability 3 (some .boolean) 0 0 tvZ [.int x0, .int x1, .int x2] V (z, V) := by
  refine cm_of vwC_D (by decide +kernel) (own := RX2) rfl (Nat.le_of_ble_eq_true rfl) (L := [some (.int x0), some (.int x1), some (.int x2)]) rfl hz (fun Γ => ?_)
  unfold f_X2_isLegalCapability
  refine ag_iload_n dX2_isLegalCapability_0 rfl ?_
  refine ag_if (fun h1 => ?_) (fun h1 => ?_)
  · refine ag_lk (off := 27) (tgt := 28) dX2_isLegalCapability_1 (by decide) (by rw [h1]; decide) (by decide) ?_
    refine ag_iload_n dX2_isLegalCapability_28 rfl ?_
    refine ag_bipush (v := 16) dX2_isLegalCapability_29 (by decide) ?_
    refine ag_dv (j := 45) (L1 := fun _ => [some (.int x0), some (.int x1), some (.int x2)]) (st1 := fun v2 => [.int (b2i v2)]) (ws1 := fun _ => vwC cy bs kb V) (fun v2 => ?_) (fun k4 hk3 => ?_)
    · exact ag_zrp (x := v2) dX2_isLegalCapability_45
    · refine ag_icmp_ge_v (tgt := 44) dX2_isLegalCapability_31 (by decide) (fun h5 => ?_) (fun h5 => ?_)
      · refine ag_iconst (v := 0) dX2_isLegalCapability_44 (by decide) ?_
        exact hk3 false
      · refine ag_iload_n dX2_isLegalCapability_34 rfl ?_
        refine ag_bipush (v := 7) dX2_isLegalCapability_35 (by decide) ?_
        refine ag_icmp_gt_v (tgt := 44) dX2_isLegalCapability_37 (by decide) (fun h6 => ?_) (fun h6 => ?_)
        · refine ag_iconst (v := 0) dX2_isLegalCapability_44 (by decide) ?_
          exact hk3 false
        · refine ag_iconst (v := 1) dX2_isLegalCapability_40 (by decide) ?_
          refine ag_goto (tgt := 45) dX2_isLegalCapability_41 (by decide) ?_
          exact hk3 true
  · refine ag_if (fun h7 => ?_) (fun h7 => ?_)
    · refine ag_lk (off := 45) (tgt := 46) dX2_isLegalCapability_1 (by decide) (by rw [h7]; decide) (by decide) ?_
      refine ag_iload_n dX2_isLegalCapability_46 rfl ?_
      refine ag_bipush (v := 12) dX2_isLegalCapability_47 (by decide) ?_
      refine ag_dv (j := 61) (L1 := fun _ => [some (.int x0), some (.int x1), some (.int x2)]) (st1 := fun v8 => [.int (b2i v8)]) (ws1 := fun _ => vwC cy bs kb V) (fun v8 => ?_) (fun k10 hk9 => ?_)
      · exact ag_zrp (x := v8) dX2_isLegalCapability_61
      · refine ag_icmp_gt_v (tgt := 60) dX2_isLegalCapability_49 (by decide) (fun h11 => ?_) (fun h11 => ?_)
        · refine ag_iconst (v := 0) dX2_isLegalCapability_60 (by decide) ?_
          exact hk9 false
        · refine ag_iload_n dX2_isLegalCapability_52 rfl ?_
          refine ag_if_ne_v (tgt := 60) dX2_isLegalCapability_53 (by decide) (fun h12 => ?_) (fun h12 => ?_)
          · refine ag_iconst (v := 0) dX2_isLegalCapability_60 (by decide) ?_
            exact hk9 false
          · refine ag_iconst (v := 1) dX2_isLegalCapability_56 (by decide) ?_
            refine ag_goto (tgt := 61) dX2_isLegalCapability_57 (by decide) ?_
            exact hk9 true
    · refine ag_lk (off := 61) (tgt := 62) dX2_isLegalCapability_1 (by decide) (by show Op.lookupswitch.offset [(0, 27), (1, 45)] 61 _ = _; rw [lv_osw h1 (k := 0) (by decide), lv_osw h7 (k := 1) (by decide)]; rfl) (by decide) ?_
      refine ag_iload_n dX2_isLegalCapability_62 rfl ?_
      refine ag_iconst (v := 3) dX2_isLegalCapability_63 (by decide) ?_
      refine ag_dv (j := 72) (L1 := fun _ => [some (.int x0), some (.int x1), some (.int x2)]) (st1 := fun v13 => [.int (b2i v13)]) (ws1 := fun _ => vwC cy bs kb V) (fun v13 => ?_) (fun k15 hk14 => ?_)
      · exact ag_zrp (x := v13) dX2_isLegalCapability_72
      · refine ag_icmp_gt_v (tgt := 71) dX2_isLegalCapability_64 (by decide) (fun h16 => ?_) (fun h16 => ?_)
        · refine ag_iconst (v := 0) dX2_isLegalCapability_71 (by decide) ?_
          exact hk14 false
        · refine ag_iconst (v := 1) dX2_isLegalCapability_67 (by decide) ?_
          refine ag_goto (tgt := 72) dX2_isLegalCapability_68 (by decide) ?_
          exact hk14 true
set_option maxRecDepth 100000 in
set_option maxHeartbeats 4000000 in
theorem c_X2_isLegal {l : Launch} {D : va_G} {cy : Nat → ClassId} {bs kb : Nat} {V : HV} (x0 : Int32) {z : Bool} (hz : f_X2_isLegal x0 = z) : CM l (aG 737 bs) D (tyL cy) (vwC cy bs kb) yX2_isLegal cX2_isLegal 6 (some .boolean) 1 22 tvZ [.int x0] V (z, V) := by
  refine cm_of vwC_D (by decide +kernel) (own := RX2) rfl (Nat.le_of_ble_eq_true rfl) (L := [some (.int x0), none, none, none, none, none]) rfl hz (fun Γ => ?_)
  unfold f_X2_isLegal
  refine ag_iload_n dX2_isLegal_0 rfl ?_
  refine ag_isIp (c_X2_f x0  rfl) vwC_D cs_X2_78 rfl rfl (Nat.le_of_ble_eq_true rfl) ⟨by decide, by decide⟩ ⟨Nat.zero_le _, Nat.zero_le _⟩ dX2_isLegal_1 ?_
  refine ag_ltI (fun v1 => ?_)
  refine ag_istore_n (L' := [some (.int x0), some (.int v1), none, none, none, none]) dX2_isLegal_4 (by decide) rfl ?_
  refine ag_iload_n dX2_isLegal_5 rfl ?_
  refine ag_isIp (c_X2_g x0  rfl) vwC_D cs_X2_81 rfl rfl (Nat.le_of_ble_eq_true rfl) ⟨by decide, by decide⟩ ⟨Nat.zero_le _, Nat.zero_le _⟩ dX2_isLegal_6 ?_
  refine ag_ltI (fun v2 => ?_)
  refine ag_istore_n (L' := [some (.int x0), some (.int v1), some (.int v2), none, none, none]) dX2_isLegal_9 (by decide) rfl ?_
  refine ag_iload_n dX2_isLegal_10 rfl ?_
  refine ag_isIp (c_X2_dField x0  rfl) vwC_D cs_X2_9 rfl rfl (Nat.le_of_ble_eq_true rfl) ⟨by decide, by decide⟩ ⟨Nat.zero_le _, Nat.zero_le _⟩ dX2_isLegal_11 ?_
  refine ag_ltI (fun v3 => ?_)
  refine ag_bipush (v := 16) dX2_isLegal_14 (by decide) ?_
  refine ag_dv (j := 24) (L1 := fun _ => [some (.int x0), some (.int v1), some (.int v2), none, none, none]) (st1 := fun v4 => [.int (b2i v4)]) (ws1 := fun _ => vwC cy bs kb V) (fun v4 => ?_) (fun k80 hk5 => ?_)
  · refine ag_istore_n (L' := [some (.int x0), some (.int v1), some (.int v2), some (.int (b2i v4)), none, none]) dX2_isLegal_24 (by decide) rfl ?_
    refine ag_iload_n dX2_isLegal_25 rfl ?_
    refine ag_isIp (c_X2_aField x0  rfl) vwC_D cs_X2_84 rfl rfl (Nat.le_of_ble_eq_true rfl) ⟨by decide, by decide⟩ ⟨Nat.zero_le _, Nat.zero_le _⟩ dX2_isLegal_26 ?_
    refine ag_ltI (fun v6 => ?_)
    refine ag_bipush (v := 16) dX2_isLegal_29 (by decide) ?_
    refine ag_dv (j := 39) (L1 := fun _ => [some (.int x0), some (.int v1), some (.int v2), some (.int (b2i v4)), none, none]) (st1 := fun v7 => [.int (b2i v7)]) (ws1 := fun _ => vwC cy bs kb V) (fun v7 => ?_) (fun k78 hk8 => ?_)
    · refine ag_istore (L' := [some (.int x0), some (.int v1), some (.int v2), some (.int (b2i v4)), some (.int (b2i v7)), none]) dX2_isLegal_39 (by decide) rfl ?_
      refine ag_iload_n dX2_isLegal_41 rfl ?_
      refine ag_isIp (c_X2_bField x0  rfl) vwC_D cs_X2_87 rfl rfl (Nat.le_of_ble_eq_true rfl) ⟨by decide, by decide⟩ ⟨Nat.zero_le _, Nat.zero_le _⟩ dX2_isLegal_42 ?_
      refine ag_ltI (fun v9 => ?_)
      refine ag_bipush (v := 16) dX2_isLegal_45 (by decide) ?_
      refine ag_dv (j := 55) (L1 := fun _ => [some (.int x0), some (.int v1), some (.int v2), some (.int (b2i v4)), some (.int (b2i v7)), none]) (st1 := fun v10 => [.int (b2i v10)]) (ws1 := fun _ => vwC cy bs kb V) (fun v10 => ?_) (fun k76 hk11 => ?_)
      · refine ag_istore (L' := [some (.int x0), some (.int v1), some (.int v2), some (.int (b2i v4)), some (.int (b2i v7)), some (.int (b2i v10))]) dX2_isLegal_55 (by decide) rfl ?_
        refine ag_iload_n dX2_isLegal_57 rfl ?_
        refine ag_bipush (v := 127) dX2_isLegal_58 (by decide) ?_
        refine ag_iand dX2_isLegal_60 ?_
        refine ag_if (fun h12 => ?_) (fun h12 => ?_)
        · refine ag_lk (off := 199) (tgt := 260) dX2_isLegal_61 (by decide) (by rw [h12]; decide) (by decide) ?_
          refine ag_iload_n dX2_isLegal_260 rfl ?_
          refine ag_dv (j := 279) (L1 := fun _ => [some (.int x0), some (.int v1), some (.int v2), some (.int (b2i v4)), some (.int (b2i v7)), some (.int (b2i v10))]) (st1 := fun v13 => [.int (b2i v13)]) (ws1 := fun _ => vwC cy bs kb V) (fun v13 => ?_) (fun k15 hk14 => ?_)
          · exact ag_zrp (x := v13) dX2_isLegal_279
          · refine ag_bif_eq_v (tgt := 278) dX2_isLegal_261 (by decide) (fun h16 => ?_) (fun h16 => ?_)
            · refine ag_iconst (v := 0) dX2_isLegal_278 (by decide) ?_
              exact hk14 false
            · refine ag_iload dX2_isLegal_264 rfl ?_
              refine ag_bif_eq_v (tgt := 278) dX2_isLegal_266 (by decide) (fun h17 => ?_) (fun h17 => ?_)
              · refine ag_iconst (v := 0) dX2_isLegal_278 (by decide) ?_
                exact hk14 false
              · refine ag_iload_n dX2_isLegal_269 rfl ?_
                refine ag_iconst (v := 5) dX2_isLegal_270 (by decide) ?_
                refine ag_icmp_gt_v (tgt := 278) dX2_isLegal_271 (by decide) (fun h18 => ?_) (fun h18 => ?_)
                · refine ag_iconst (v := 0) dX2_isLegal_278 (by decide) ?_
                  exact hk14 false
                · refine ag_iconst (v := 1) dX2_isLegal_274 (by decide) ?_
                  refine ag_goto (tgt := 279) dX2_isLegal_275 (by decide) ?_
                  exact hk14 true
        · refine ag_if (fun h19 => ?_) (fun h19 => ?_)
          · refine ag_lk (off := 119) (tgt := 180) dX2_isLegal_61 (by decide) (by rw [h19]; decide) (by decide) ?_
            refine ag_iload_n dX2_isLegal_180 rfl ?_
            refine ag_dv (j := 219) (L1 := fun _ => [some (.int x0), some (.int v1), some (.int v2), some (.int (b2i v4)), some (.int (b2i v7)), some (.int (b2i v10))]) (st1 := fun v20 => [.int (b2i v20)]) (ws1 := fun _ => vwC cy bs kb V) (fun v20 => ?_) (fun k22 hk21 => ?_)
            · exact ag_zrp (x := v20) dX2_isLegal_219
            · refine ag_bif_eq_v (tgt := 218) dX2_isLegal_181 (by decide) (fun h23 => ?_) (fun h23 => ?_)
              · refine ag_iconst (v := 0) dX2_isLegal_218 (by decide) ?_
                exact hk21 false
              · refine ag_iload dX2_isLegal_184 rfl ?_
                refine ag_bif_eq_v (tgt := 218) dX2_isLegal_186 (by decide) (fun h24 => ?_) (fun h24 => ?_)
                · refine ag_iconst (v := 0) dX2_isLegal_218 (by decide) ?_
                  exact hk21 false
                · refine ag_iload_n dX2_isLegal_189 rfl ?_
                  refine ag_iconst (v := 1) dX2_isLegal_190 (by decide) ?_
                  refine ag_icmp_eq_v (tgt := 199) dX2_isLegal_191 (by decide) (fun h25 => ?_) (fun h25 => ?_)
                  · refine ag_iload_n dX2_isLegal_199 rfl ?_
                    refine ag_if_eq_v (tgt := 214) dX2_isLegal_200 (by decide) (fun h26 => ?_) (fun h26 => ?_)
                    · refine ag_iconst (v := 1) dX2_isLegal_214 (by decide) ?_
                      refine ag_goto (tgt := 219) dX2_isLegal_215 (by decide) ?_
                      exact hk21 true
                    · refine ag_iload_n dX2_isLegal_203 rfl ?_
                      refine ag_iconst (v := 5) dX2_isLegal_204 (by decide) ?_
                      refine ag_icmp_ne_v (tgt := 218) dX2_isLegal_205 (by decide) (fun h27 => ?_) (fun h27 => ?_)
                      · refine ag_iconst (v := 0) dX2_isLegal_218 (by decide) ?_
                        exact hk21 false
                      · refine ag_iload_n dX2_isLegal_208 rfl ?_
                        refine ag_bipush (v := 32) dX2_isLegal_209 (by decide) ?_
                        refine ag_icmp_ne_v (tgt := 218) dX2_isLegal_211 (by decide) (fun h28 => ?_) (fun h28 => ?_)
                        · refine ag_iconst (v := 0) dX2_isLegal_218 (by decide) ?_
                          exact hk21 false
                        · refine ag_iconst (v := 1) dX2_isLegal_214 (by decide) ?_
                          refine ag_goto (tgt := 219) dX2_isLegal_215 (by decide) ?_
                          exact hk21 true
                  · refine ag_iload_n dX2_isLegal_194 rfl ?_
                    refine ag_iconst (v := 5) dX2_isLegal_195 (by decide) ?_
                    refine ag_icmp_ne_v (tgt := 214) dX2_isLegal_196 (by decide) (fun h29 => ?_) (fun h29 => ?_)
                    · refine ag_iconst (v := 1) dX2_isLegal_214 (by decide) ?_
                      refine ag_goto (tgt := 219) dX2_isLegal_215 (by decide) ?_
                      exact hk21 true
                    · refine ag_iload_n dX2_isLegal_199 rfl ?_
                      refine ag_if_eq_v (tgt := 214) dX2_isLegal_200 (by decide) (fun h30 => ?_) (fun h30 => ?_)
                      · refine ag_iconst (v := 1) dX2_isLegal_214 (by decide) ?_
                        refine ag_goto (tgt := 219) dX2_isLegal_215 (by decide) ?_
                        exact hk21 true
                      · refine ag_iload_n dX2_isLegal_203 rfl ?_
                        refine ag_iconst (v := 5) dX2_isLegal_204 (by decide) ?_
                        refine ag_icmp_ne_v (tgt := 218) dX2_isLegal_205 (by decide) (fun h31 => ?_) (fun h31 => ?_)
                        · refine ag_iconst (v := 0) dX2_isLegal_218 (by decide) ?_
                          exact hk21 false
                        · refine ag_iload_n dX2_isLegal_208 rfl ?_
                          refine ag_bipush (v := 32) dX2_isLegal_209 (by decide) ?_
                          refine ag_icmp_ne_v (tgt := 218) dX2_isLegal_211 (by decide) (fun h32 => ?_) (fun h32 => ?_)
                          · refine ag_iconst (v := 0) dX2_isLegal_218 (by decide) ?_
                            exact hk21 false
                          · refine ag_iconst (v := 1) dX2_isLegal_214 (by decide) ?_
                            refine ag_goto (tgt := 219) dX2_isLegal_215 (by decide) ?_
                            exact hk21 true
          · refine ag_if (fun h33 => ?_) (fun h33 => ?_)
            · refine ag_lk (off := 91) (tgt := 152) dX2_isLegal_61 (by decide) (by rw [h33]; decide) (by decide) ?_
              refine ag_iload_n dX2_isLegal_152 rfl ?_
              exact ag_zrp (x := v4) dX2_isLegal_153
            · refine ag_if (fun h34 => ?_) (fun h34 => ?_)
              · refine ag_lk (off := 219) (tgt := 280) dX2_isLegal_61 (by decide) (by rw [h34]; decide) (by decide) ?_
                refine ag_iload dX2_isLegal_280 rfl ?_
                refine ag_dv (j := 300) (L1 := fun _ => [some (.int x0), some (.int v1), some (.int v2), some (.int (b2i v4)), some (.int (b2i v7)), some (.int (b2i v10))]) (st1 := fun v35 => [.int (b2i v35)]) (ws1 := fun _ => vwC cy bs kb V) (fun v35 => ?_) (fun k37 hk36 => ?_)
                · exact ag_zrp (x := v35) dX2_isLegal_300
                · refine ag_bif_eq_v (tgt := 299) dX2_isLegal_282 (by decide) (fun h38 => ?_) (fun h38 => ?_)
                  · refine ag_iconst (v := 0) dX2_isLegal_299 (by decide) ?_
                    exact hk36 false
                  · refine ag_iload dX2_isLegal_285 rfl ?_
                    refine ag_bif_eq_v (tgt := 299) dX2_isLegal_287 (by decide) (fun h39 => ?_) (fun h39 => ?_)
                    · refine ag_iconst (v := 0) dX2_isLegal_299 (by decide) ?_
                      exact hk36 false
                    · refine ag_iload_n dX2_isLegal_290 rfl ?_
                      refine ag_iconst (v := 3) dX2_isLegal_291 (by decide) ?_
                      refine ag_icmp_gt_v (tgt := 299) dX2_isLegal_292 (by decide) (fun h40 => ?_) (fun h40 => ?_)
                      · refine ag_iconst (v := 0) dX2_isLegal_299 (by decide) ?_
                        exact hk36 false
                      · refine ag_iconst (v := 1) dX2_isLegal_295 (by decide) ?_
                        refine ag_goto (tgt := 300) dX2_isLegal_296 (by decide) ?_
                        exact hk36 true
              · refine ag_if (fun h41 => ?_) (fun h41 => ?_)
                · refine ag_lk (off := 159) (tgt := 220) dX2_isLegal_61 (by decide) (by rw [h41]; decide) (by decide) ?_
                  refine ag_iload_n dX2_isLegal_220 rfl ?_
                  refine ag_dv (j := 259) (L1 := fun _ => [some (.int x0), some (.int v1), some (.int v2), some (.int (b2i v4)), some (.int (b2i v7)), some (.int (b2i v10))]) (st1 := fun v42 => [.int (b2i v42)]) (ws1 := fun _ => vwC cy bs kb V) (fun v42 => ?_) (fun k44 hk43 => ?_)
                  · exact ag_zrp (x := v42) dX2_isLegal_259
                  · refine ag_bif_eq_v (tgt := 258) dX2_isLegal_221 (by decide) (fun h45 => ?_) (fun h45 => ?_)
                    · refine ag_iconst (v := 0) dX2_isLegal_258 (by decide) ?_
                      exact hk43 false
                    · refine ag_iload dX2_isLegal_224 rfl ?_
                      refine ag_bif_eq_v (tgt := 258) dX2_isLegal_226 (by decide) (fun h46 => ?_) (fun h46 => ?_)
                      · refine ag_iconst (v := 0) dX2_isLegal_258 (by decide) ?_
                        exact hk43 false
                      · refine ag_iload dX2_isLegal_229 rfl ?_
                        refine ag_bif_eq_v (tgt := 258) dX2_isLegal_231 (by decide) (fun h47 => ?_) (fun h47 => ?_)
                        · refine ag_iconst (v := 0) dX2_isLegal_258 (by decide) ?_
                          exact hk43 false
                        · refine ag_iload_n dX2_isLegal_234 rfl ?_
                          refine ag_iconst (v := 1) dX2_isLegal_235 (by decide) ?_
                          refine ag_icmp_le_v (tgt := 254) dX2_isLegal_236 (by decide) (fun h48 => ?_) (fun h48 => ?_)
                          · refine ag_iconst (v := 1) dX2_isLegal_254 (by decide) ?_
                            refine ag_goto (tgt := 259) dX2_isLegal_255 (by decide) ?_
                            exact hk43 true
                          · refine ag_iload_n dX2_isLegal_239 rfl ?_
                            refine ag_bipush (v := 32) dX2_isLegal_240 (by decide) ?_
                            refine ag_icmp_ne_v (tgt := 258) dX2_isLegal_242 (by decide) (fun h49 => ?_) (fun h49 => ?_)
                            · refine ag_iconst (v := 0) dX2_isLegal_258 (by decide) ?_
                              exact hk43 false
                            · refine ag_iload_n dX2_isLegal_245 rfl ?_
                              refine ag_if_eq_v (tgt := 254) dX2_isLegal_246 (by decide) (fun h50 => ?_) (fun h50 => ?_)
                              · refine ag_iconst (v := 1) dX2_isLegal_254 (by decide) ?_
                                refine ag_goto (tgt := 259) dX2_isLegal_255 (by decide) ?_
                                exact hk43 true
                              · refine ag_iload_n dX2_isLegal_249 rfl ?_
                                refine ag_iconst (v := 5) dX2_isLegal_250 (by decide) ?_
                                refine ag_icmp_ne_v (tgt := 258) dX2_isLegal_251 (by decide) (fun h51 => ?_) (fun h51 => ?_)
                                · refine ag_iconst (v := 0) dX2_isLegal_258 (by decide) ?_
                                  exact hk43 false
                                · refine ag_iconst (v := 1) dX2_isLegal_254 (by decide) ?_
                                  refine ag_goto (tgt := 259) dX2_isLegal_255 (by decide) ?_
                                  exact hk43 true
                · refine ag_if (fun h52 => ?_) (fun h52 => ?_)
                  · refine ag_lk (off := 91) (tgt := 152) dX2_isLegal_61 (by decide) (by rw [h52]; decide) (by decide) ?_
                    refine ag_iload_n dX2_isLegal_152 rfl ?_
                    exact ag_zrp (x := v4) dX2_isLegal_153
                  · refine ag_if (fun h53 => ?_) (fun h53 => ?_)
                    · refine ag_lk (off := 240) (tgt := 301) dX2_isLegal_61 (by decide) (by rw [h53]; decide) (by decide) ?_
                      refine ag_iload_n dX2_isLegal_301 rfl ?_
                      refine ag_dv (j := 327) (L1 := fun _ => [some (.int x0), some (.int v1), some (.int v2), some (.int (b2i v4)), some (.int (b2i v7)), some (.int (b2i v10))]) (st1 := fun v54 => [.int (b2i v54)]) (ws1 := fun _ => vwC cy bs kb V) (fun v54 => ?_) (fun k56 hk55 => ?_)
                      · exact ag_zrp (x := v54) dX2_isLegal_327
                      · refine ag_bif_eq_v (tgt := 326) dX2_isLegal_302 (by decide) (fun h57 => ?_) (fun h57 => ?_)
                        · refine ag_iconst (v := 0) dX2_isLegal_326 (by decide) ?_
                          exact hk55 false
                        · refine ag_iload dX2_isLegal_305 rfl ?_
                          refine ag_bif_eq_v (tgt := 326) dX2_isLegal_307 (by decide) (fun h58 => ?_) (fun h58 => ?_)
                          · refine ag_iconst (v := 0) dX2_isLegal_326 (by decide) ?_
                            exact hk55 false
                          · refine ag_iload_n dX2_isLegal_310 rfl ?_
                            refine ag_iload_n dX2_isLegal_311 rfl ?_
                            refine ag_iload_n dX2_isLegal_312 rfl ?_
                            refine ag_isIp (c_X2_bField x0  rfl) vwC_D cs_X2_87 rfl rfl (Nat.le_of_ble_eq_true rfl) ⟨by decide, by decide⟩ ⟨Nat.zero_le _, Nat.zero_le _⟩ dX2_isLegal_313 ?_
                            refine ag_isZp (c_X2_isLegalCapability v1 v2 (f_X2_bField x0)  rfl) vwC_D cs_X2_90 rfl rfl (Nat.le_of_ble_eq_true rfl) ⟨by decide, by decide⟩ ⟨Nat.zero_le _, Nat.zero_le _⟩ dX2_isLegal_316 ?_
                            refine ag_bif_eq_v (tgt := 326) dX2_isLegal_319 (by decide) (fun h59 => ?_) (fun h59 => ?_)
                            · refine ag_iconst (v := 0) dX2_isLegal_326 (by decide) ?_
                              exact hk55 false
                            · refine ag_iconst (v := 1) dX2_isLegal_322 (by decide) ?_
                              refine ag_goto (tgt := 327) dX2_isLegal_323 (by decide) ?_
                              exact hk55 true
                    · refine ag_if (fun h60 => ?_) (fun h60 => ?_)
                      · refine ag_lk (off := 93) (tgt := 154) dX2_isLegal_61 (by decide) (by rw [h60]; decide) (by decide) ?_
                        refine ag_iload dX2_isLegal_154 rfl ?_
                        refine ag_dv (j := 179) (L1 := fun _ => [some (.int x0), some (.int v1), some (.int v2), some (.int (b2i v4)), some (.int (b2i v7)), some (.int (b2i v10))]) (st1 := fun v61 => [.int (b2i v61)]) (ws1 := fun _ => vwC cy bs kb V) (fun v61 => ?_) (fun k63 hk62 => ?_)
                        · exact ag_zrp (x := v61) dX2_isLegal_179
                        · refine ag_bif_eq_v (tgt := 178) dX2_isLegal_156 (by decide) (fun h64 => ?_) (fun h64 => ?_)
                          · refine ag_iconst (v := 0) dX2_isLegal_178 (by decide) ?_
                            exact hk62 false
                          · refine ag_iload dX2_isLegal_159 rfl ?_
                            refine ag_bif_eq_v (tgt := 178) dX2_isLegal_161 (by decide) (fun h65 => ?_) (fun h65 => ?_)
                            · refine ag_iconst (v := 0) dX2_isLegal_178 (by decide) ?_
                              exact hk62 false
                            · refine ag_iload_n dX2_isLegal_164 rfl ?_
                              refine ag_iconst (v := 2) dX2_isLegal_165 (by decide) ?_
                              refine ag_icmp_eq_v (tgt := 178) dX2_isLegal_166 (by decide) (fun h66 => ?_) (fun h66 => ?_)
                              · refine ag_iconst (v := 0) dX2_isLegal_178 (by decide) ?_
                                exact hk62 false
                              · refine ag_iload_n dX2_isLegal_169 rfl ?_
                                refine ag_iconst (v := 3) dX2_isLegal_170 (by decide) ?_
                                refine ag_icmp_eq_v (tgt := 178) dX2_isLegal_171 (by decide) (fun h67 => ?_) (fun h67 => ?_)
                                · refine ag_iconst (v := 0) dX2_isLegal_178 (by decide) ?_
                                  exact hk62 false
                                · refine ag_iconst (v := 1) dX2_isLegal_174 (by decide) ?_
                                  refine ag_goto (tgt := 179) dX2_isLegal_175 (by decide) ?_
                                  exact hk62 true
                      · refine ag_if (fun h68 => ?_) (fun h68 => ?_)
                        · refine ag_lk (off := 267) (tgt := 328) dX2_isLegal_61 (by decide) (by rw [h68]; decide) (by decide) ?_
                          refine ag_iload_n dX2_isLegal_328 rfl ?_
                          refine ag_dv (j := 346) (L1 := fun _ => [some (.int x0), some (.int v1), some (.int v2), some (.int (b2i v4)), some (.int (b2i v7)), some (.int (b2i v10))]) (st1 := fun v69 => [.int (b2i v69)]) (ws1 := fun _ => vwC cy bs kb V) (fun v69 => ?_) (fun k71 hk70 => ?_)
                          · exact ag_zrp (x := v69) dX2_isLegal_346
                          · refine ag_bif_eq_v (tgt := 345) dX2_isLegal_329 (by decide) (fun h72 => ?_) (fun h72 => ?_)
                            · refine ag_iconst (v := 0) dX2_isLegal_345 (by decide) ?_
                              exact hk70 false
                            · refine ag_iload dX2_isLegal_332 rfl ?_
                              refine ag_bif_eq_v (tgt := 345) dX2_isLegal_334 (by decide) (fun h73 => ?_) (fun h73 => ?_)
                              · refine ag_iconst (v := 0) dX2_isLegal_345 (by decide) ?_
                                exact hk70 false
                              · refine ag_iload_n dX2_isLegal_337 rfl ?_
                                refine ag_if_ne_v (tgt := 345) dX2_isLegal_338 (by decide) (fun h74 => ?_) (fun h74 => ?_)
                                · refine ag_iconst (v := 0) dX2_isLegal_345 (by decide) ?_
                                  exact hk70 false
                                · refine ag_iconst (v := 1) dX2_isLegal_341 (by decide) ?_
                                  refine ag_goto (tgt := 346) dX2_isLegal_342 (by decide) ?_
                                  exact hk70 true
                        · refine ag_if (fun h75 => ?_) (fun h75 => ?_)
                          · refine ag_lk (off := 91) (tgt := 152) dX2_isLegal_61 (by decide) (by rw [h75]; decide) (by decide) ?_
                            refine ag_iload_n dX2_isLegal_152 rfl ?_
                            exact ag_zrp (x := v4) dX2_isLegal_153
                          · refine ag_lk (off := 286) (tgt := 347) dX2_isLegal_61 (by decide) (by show Op.lookupswitch.offset [(3, 199), (19, 119), (23, 91), (35, 219), (51, 159), (55, 91), (91, 240), (99, 93), (103, 267), (111, 91)] 286 _ = _; rw [lv_osw h12 (k := 3) (by decide), lv_osw h19 (k := 19) (by decide), lv_osw h33 (k := 23) (by decide), lv_osw h34 (k := 35) (by decide), lv_osw h41 (k := 51) (by decide), lv_osw h52 (k := 55) (by decide), lv_osw h53 (k := 91) (by decide), lv_osw h60 (k := 99) (by decide), lv_osw h68 (k := 103) (by decide), lv_osw h75 (k := 111) (by decide)]; rfl) (by decide) ?_
                            refine ag_iconst (v := 0) dX2_isLegal_347 (by decide) ?_
                            exact ag_zrp (x := false) dX2_isLegal_348
      · refine ag_icmp_ge_v (tgt := 54) dX2_isLegal_47 (by decide) (fun h77 => ?_) (fun h77 => ?_)
        · refine ag_iconst (v := 0) dX2_isLegal_54 (by decide) ?_
          exact hk11 false
        · refine ag_iconst (v := 1) dX2_isLegal_50 (by decide) ?_
          refine ag_goto (tgt := 55) dX2_isLegal_51 (by decide) ?_
          exact hk11 true
    · refine ag_icmp_ge_v (tgt := 38) dX2_isLegal_31 (by decide) (fun h79 => ?_) (fun h79 => ?_)
      · refine ag_iconst (v := 0) dX2_isLegal_38 (by decide) ?_
        exact hk8 false
      · refine ag_iconst (v := 1) dX2_isLegal_34 (by decide) ?_
        refine ag_goto (tgt := 39) dX2_isLegal_35 (by decide) ?_
        exact hk8 true
  · refine ag_icmp_ge_v (tgt := 23) dX2_isLegal_16 (by decide) (fun h81 => ?_) (fun h81 => ?_)
    · refine ag_iconst (v := 0) dX2_isLegal_23 (by decide) ?_
      exact hk5 false
    · refine ag_iconst (v := 1) dX2_isLegal_19 (by decide) ?_
      refine ag_goto (tgt := 24) dX2_isLegal_20 (by decide) ?_
      exact hk5 true
set_option maxRecDepth 100000 in
set_option maxHeartbeats 4000000 in
theorem c_X9_reg {l : Launch} {D : va_G} {cy : Nat → ClassId} {bs kb : Nat} {V : HV} (o0 : Nat) (x1 : Int32) (ho0 : o0 < 6) {z : Nat} (hz : f_X9_reg o0 x1 = z) : CM l (aG 737 bs) D (tyL cy) (vwC cy bs kb) yX9_reg cX9_reg 2 (some (.object "SweptGrants$Cap")) 0 0 (tvR (fun x => bs + posC 0 x)) [.ref (bs + posC 7 o0), .int x1] V (z, V) := by
  refine cm_of vwC_D (by decide +kernel) (own := RX9) rfl (Nat.le_of_ble_eq_true rfl) (L := [some (.ref (bs + posC 7 o0)), some (.int x1)]) rfl hz (fun Γ => ?_)
  unfold f_X9_reg
  refine ag_aload_n dX9_reg_0 rfl ?_
  refine gC_X9_regs ho0 fl_X9_13 dX9_reg_1 ?_
  refine ag_iload_n dX9_reg_4 rfl ?_
  refine ag_bipush (v := 15) dX9_reg_5 (by decide) ?_
  refine ag_iand dX9_reg_7 ?_
  refine aC_29 ho0 (inb_and 15 4 (by decide) (by decide)) dX9_reg_8 ?_
  exact ag_rrp dX9_reg_9
set_option maxRecDepth 100000 in
set_option maxHeartbeats 4000000 in
theorem c_X2_jumpFault {l : Launch} {D : va_G} {cy : Nat → ClassId} {bs kb : Nat} {V : HV} (o0 : Nat) (x1 : Int32) (ho0 : o0 < 583) {z : Int32} (hz : f_X2_jumpFault kb o0 x1 V = z) : CM l (aG 737 bs) D (tyL cy) (vwC cy bs kb) yX2_jumpFault cX2_jumpFault 2 (some .int) 1 21 tvI [.ref (bs + posC 0 o0), .int x1] V (z, V) := by
  refine cm_of vwC_D (by decide +kernel) (own := RX2) rfl (Nat.le_of_ble_eq_true rfl) (L := [some (.ref (bs + posC 0 o0)), some (.int x1)]) rfl hz (fun Γ => ?_)
  unfold f_X2_jumpFault
  refine ag_aload_n dX2_jumpFault_0 rfl ?_
  refine gC_X0_tagged ho0 fl_X2_184 dX2_jumpFault_1 ?_
  refine ag_bif_ne (tgt := 9) dX2_jumpFault_4 (by decide) (fun h1 => ?_) (fun h1 => ?_)
  · refine ag_aload_n dX2_jumpFault_9 rfl ?_
    refine gC_X0_type ho0 fl_X2_136 dX2_jumpFault_10 ?_
    refine ag_if_ne (tgt := 30) dX2_jumpFault_13 (by decide) (fun h2 => ?_) (fun h2 => ?_)
    · refine ag_iload_n dX2_jumpFault_30 rfl ?_
      refine ag_dv (j := 48) (L1 := fun _ => [some (.ref (bs + posC 0 o0)), some (.int x1)]) (st1 := fun v3 => [.int v3]) (ws1 := fun _ => vwC cy bs kb V) (fun v3 => ?_) (fun k5 hk4 => ?_)
      · exact ag_irp dX2_jumpFault_48
      · refine ag_if_ne_v (tgt := 47) dX2_jumpFault_31 (by decide) (fun h6 => ?_) (fun h6 => ?_)
        · refine ag_iconst (v := 2) dX2_jumpFault_47 (by decide) ?_
          exact hk4 2
        · refine ag_aload_n dX2_jumpFault_34 rfl ?_
          refine gC_X0_type ho0 fl_X2_136 dX2_jumpFault_35 ?_
          refine ag_bipush (v := 6) dX2_jumpFault_38 (by decide) ?_
          refine ag_icmp_gt_v (tgt := 47) dX2_jumpFault_40 (by decide) (fun h7 => ?_) (fun h7 => ?_)
          · refine ag_iconst (v := 2) dX2_jumpFault_47 (by decide) ?_
            exact hk4 2
          · refine ag_iconst (v := 0) dX2_jumpFault_43 (by decide) ?_
            refine ag_goto (tgt := 48) dX2_jumpFault_44 (by decide) ?_
            exact hk4 0
    · refine ag_aload_n dX2_jumpFault_16 rfl ?_
      refine ag_iconst (v := 4) dX2_jumpFault_17 (by decide) ?_
      refine ag_ivZp (c_X0_has o0 4 ho0 rfl) vwC_D (vwC_at (kpC_0 _ ho0)) rfl cs_X2_167 rfl rfl (Nat.le_of_ble_eq_true rfl) ⟨by decide, by decide⟩ ⟨Nat.zero_le _, Nat.zero_le _⟩ dX2_jumpFault_18 ?_
      refine ag_ltZ (fun v8 => ?_)
      refine ag_dv (j := 29) (L1 := fun _ => [some (.ref (bs + posC 0 o0)), some (.int x1)]) (st1 := fun v9 => [.int v9]) (ws1 := fun _ => vwC cy bs kb V) (fun v9 => ?_) (fun k11 hk10 => ?_)
      · exact ag_irp dX2_jumpFault_29
      · refine ag_bif_eq_v (tgt := 28) dX2_jumpFault_21 (by decide) (fun h12 => ?_) (fun h12 => ?_)
        · refine ag_iconst (v := 3) dX2_jumpFault_28 (by decide) ?_
          exact hk10 3
        · refine ag_iconst (v := 0) dX2_jumpFault_24 (by decide) ?_
          refine ag_goto (tgt := 29) dX2_jumpFault_25 (by decide) ?_
          exact hk10 0
  · refine ag_iconst (v := 1) dX2_jumpFault_7 (by decide) ?_
    exact ag_irp dX2_jumpFault_8
set_option maxRecDepth 100000 in
set_option maxHeartbeats 4000000 in
theorem c_X2_link {l : Launch} {D : va_G} {cy : Nat → ClassId} {bs kb : Nat} {V : HV} (o0 : Nat) (o1 : Nat) (ho0 : o0 < 6) (ho1 : o1 < 583) {z : HV} (hz : f_X2_link kb o0 o1 V = z) : CM l (aG 737 bs) D (tyL cy) (vwC cy bs kb) yX2_link cX2_link 2 none 2 47 tvV [.ref (bs + posC 7 o0), .ref (bs + posC 0 o1)] V ((), z) := by
  refine cm_of vwC_D (by decide +kernel) (own := RX2) rfl (Nat.le_of_ble_eq_true rfl) (L := [some (.ref (bs + posC 7 o0)), some (.ref (bs + posC 0 o1))]) rfl hz (fun Γ => ?_)
  unfold f_X2_link
  refine ag_aload_n dX2_link_0 rfl ?_
  refine ag_aload_n dX2_link_1 rfl ?_
  refine gC_X9_pcc ho0 fl_X2_25 dX2_link_2 ?_
  refine ag_ivVe (c_X0_copy o1 (17 * o0 + 16) ho1 (by omega) rfl) vwC_D (vwC_at (kpC_0 _ ho1)) rfl cs_X2_98 rfl rfl (Nat.le_of_ble_eq_true rfl) ⟨by decide, by decide⟩ ⟨Nat.zero_le _, Nat.zero_le _⟩ dX2_link_5 ?_
  refine ag_ltV (fun V1 => ?_)
  refine ag_aload_n dX2_link_8 rfl ?_
  refine ag_dup dX2_link_9 rfl ?_
  refine gC_X0_cursor ho1 fl_X2_31 dX2_link_10 ?_
  refine ag_iconst (v := 4) dX2_link_13 (by decide) ?_
  refine ag_iadd dX2_link_14 ?_
  refine pC_X0_cursor ho1 fl_X2_31 dX2_link_15 ?_
  refine ag_ltV (fun V2 => ?_)
  refine ag_aload_n dX2_link_18 rfl ?_
  refine ag_aload_n dX2_link_19 rfl ?_
  refine gC_X9_interrupts ho0 fl_X2_132 dX2_link_20 ?_
  refine ag_dv (j := 31) (L1 := fun _ => [some (.ref (bs + posC 7 o0)), some (.ref (bs + posC 0 o1))]) (st1 := fun v3 => [.int v3, .ref (bs + posC 0 o1)]) (ws1 := fun _ => vwC cy bs kb V2) (fun v3 => ?_) (fun k6 hk4 => ?_)
  · refine pC_X0_type ho1 fl_X2_136 dX2_link_31 ?_
    refine ag_ltV (fun V5 => ?_)
    exact ag_vre dX2_link_34
  · refine ag_bif_eq_v (tgt := 30) dX2_link_23 (by decide) (fun h7 => ?_) (fun h7 => ?_)
    · refine ag_iconst (v := 2) dX2_link_30 (by decide) ?_
      exact hk4 2
    · refine ag_iconst (v := 3) dX2_link_26 (by decide) ?_
      refine ag_goto (tgt := 31) dX2_link_27 (by decide) ?_
      exact hk4 3
set_option maxRecDepth 100000 in
set_option maxHeartbeats 4000000 in
theorem c_X9_stackIsAsGiven {l : Launch} {D : va_G} {cy : Nat → ClassId} {bs kb : Nat} {V : HV} (o0 : Nat) (ho0 : o0 < 6) {z : Bool} (hz : f_X9_stackIsAsGiven kb o0 V = z) : CM l (aG 737 bs) D (tyL cy) (vwC cy bs kb) yX9_stackIsAsGiven cX9_stackIsAsGiven 2 (some .boolean) 1 24 tvZ [.ref (bs + posC 7 o0)] V (z, V) := by
  refine cm_of vwC_D (by decide +kernel) (own := RX9) rfl (Nat.le_of_ble_eq_true rfl) (L := [some (.ref (bs + posC 7 o0)), none]) rfl hz (fun Γ => ?_)
  unfold f_X9_stackIsAsGiven
  refine ag_aload_n dX9_stackIsAsGiven_0 rfl ?_
  refine ag_iconst (v := 2) dX9_stackIsAsGiven_1 (by decide) ?_
  refine ag_ivRp (c_X9_reg o0 2 ho0 rfl) vwC_D (vwC_at (kpC_7 _ ho0)) rfl cs_X9_82 rfl rfl (Nat.le_of_ble_eq_true rfl) ⟨by decide, by decide⟩ ⟨Nat.zero_le _, Nat.zero_le _⟩ dX9_stackIsAsGiven_2 ?_
  refine ag_astore_n (L' := [some (.ref (bs + posC 7 o0)), some (.ref (bs + posC 0 (f_X9_reg o0 2)))]) dX9_stackIsAsGiven_5 (by decide) rfl ?_
  refine ag_aload_n dX9_stackIsAsGiven_6 rfl ?_
  refine ag_iconst (v := 2) dX9_stackIsAsGiven_7 (by decide) ?_
  refine ag_ivZp (c_X0_isPlainWith (f_X9_reg o0 2) 2 (ok_X9_reg ho0) rfl) vwC_D (vwC_at (kpC_0 _ (ok_X9_reg ho0))) rfl cs_X9_116 rfl rfl (Nat.le_of_ble_eq_true rfl) ⟨by decide, by decide⟩ ⟨Nat.zero_le _, Nat.zero_le _⟩ dX9_stackIsAsGiven_8 ?_
  refine ag_ltZ (fun v1 => ?_)
  refine ag_dv (j := 63) (L1 := fun _ => [some (.ref (bs + posC 7 o0)), some (.ref (bs + posC 0 (f_X9_reg o0 2)))]) (st1 := fun v2 => [.int (b2i v2)]) (ws1 := fun _ => vwC cy bs kb V) (fun v2 => ?_) (fun k4 hk3 => ?_)
  · exact ag_zrp (x := v2) dX9_stackIsAsGiven_63
  · refine ag_bif_eq_v (tgt := 62) dX9_stackIsAsGiven_11 (by decide) (fun h5 => ?_) (fun h5 => ?_)
    · refine ag_iconst (v := 0) dX9_stackIsAsGiven_62 (by decide) ?_
      exact hk3 false
    · refine ag_aload_n dX9_stackIsAsGiven_14 rfl ?_
      refine gC_X0_base (ok_X9_reg ho0) fl_X9_120 dX9_stackIsAsGiven_15 ?_
      refine ag_aload_n dX9_stackIsAsGiven_18 rfl ?_
      refine gC_X9_stackBase ho0 fl_X9_107 dX9_stackIsAsGiven_19 ?_
      refine ag_icmp_ne_v (tgt := 62) dX9_stackIsAsGiven_22 (by decide) (fun h6 => ?_) (fun h6 => ?_)
      · refine ag_iconst (v := 0) dX9_stackIsAsGiven_62 (by decide) ?_
        exact hk3 false
      · refine ag_aload_n dX9_stackIsAsGiven_25 rfl ?_
        refine gC_X0_top (ok_X9_reg ho0) fl_X9_123 dX9_stackIsAsGiven_26 ?_
        refine ag_aload_n dX9_stackIsAsGiven_29 rfl ?_
        refine gC_X9_stackTop ho0 fl_X9_113 dX9_stackIsAsGiven_30 ?_
        refine ag_icmp_ne_v (tgt := 62) dX9_stackIsAsGiven_33 (by decide) (fun h7 => ?_) (fun h7 => ?_)
        · refine ag_iconst (v := 0) dX9_stackIsAsGiven_62 (by decide) ?_
          exact hk3 false
        · refine ag_aload_n dX9_stackIsAsGiven_36 rfl ?_
          refine ag_aload_n dX9_stackIsAsGiven_37 rfl ?_
          refine gC_X0_cursor (ok_X9_reg ho0) fl_X9_126 dX9_stackIsAsGiven_38 ?_
          refine ag_iconst (v := 0) dX9_stackIsAsGiven_41 (by decide) ?_
          refine ag_ivZp (c_X0_holds (f_X9_reg o0 2) (V 0 (f_X9_reg o0 2) 0) 0 (ok_X9_reg ho0) rfl) vwC_D (vwC_at (kpC_0 _ (ok_X9_reg ho0))) rfl cs_X9_129 rfl rfl (Nat.le_of_ble_eq_true rfl) ⟨by decide, by decide⟩ ⟨Nat.zero_le _, Nat.zero_le _⟩ dX9_stackIsAsGiven_42 ?_
          refine ag_bif_eq_v (tgt := 62) dX9_stackIsAsGiven_45 (by decide) (fun h8 => ?_) (fun h8 => ?_)
          · refine ag_iconst (v := 0) dX9_stackIsAsGiven_62 (by decide) ?_
            exact hk3 false
          · refine ag_aload_n dX9_stackIsAsGiven_48 rfl ?_
            refine gC_X0_cursor (ok_X9_reg ho0) fl_X9_126 dX9_stackIsAsGiven_49 ?_
            refine ag_bipush (v := 16) dX9_stackIsAsGiven_52 (by decide) ?_
            refine ag_irem dX9_stackIsAsGiven_54 (by decide) ?_
            refine ag_if_ne_v (tgt := 62) dX9_stackIsAsGiven_55 (by decide) (fun h9 => ?_) (fun h9 => ?_)
            · refine ag_iconst (v := 0) dX9_stackIsAsGiven_62 (by decide) ?_
              exact hk3 false
            · refine ag_iconst (v := 1) dX9_stackIsAsGiven_58 (by decide) ?_
              refine ag_goto (tgt := 63) dX9_stackIsAsGiven_59 (by decide) ?_
              exact hk3 true
set_option maxRecDepth 100000 in
set_option maxHeartbeats 4000000 in
theorem c_X10_compartmentAt {l : Launch} {D : va_G} {cy : Nat → ClassId} {bs kb : Nat} {V : HV} (o0 : Nat) (x1 : Int32) (ho0 : o0 < 1) {z : Option Nat} (hz : f_X10_compartmentAt kb o0 x1 V = some z) : CM l (aG 737 bs) D (tyL cy) (vwC cy bs kb) yX10_compartmentAt cX10_compartmentAt 2 (some (.object "SweptGrants$Compartment")) 0 0 (tvO (fun x => bs + posC 1 x)) [.ref (bs + posC 8 o0), .int x1] V (z, V) := by
  refine cm_of vwC_D (by decide +kernel) (own := RX10) rfl (Nat.le_of_ble_eq_true rfl) (L := [some (.ref (bs + posC 8 o0)), some (.int x1)]) rfl hz (fun Γ => ?_)
  unfold f_X10_compartmentAt
  refine ag_iload_n dX10_compartmentAt_0 rfl ?_
  refine ag_if_lt (tgt := 27) dX10_compartmentAt_1 (by decide) (fun h1 => ?_) (fun h1 => ?_)
  · refine ag_null dX10_compartmentAt_27 ?_
    exact ag_orpp (x := none) dX10_compartmentAt_28
  · refine ag_iload_n dX10_compartmentAt_4 rfl ?_
    refine ag_aload_n dX10_compartmentAt_5 rfl ?_
    refine gC_X10_compartmentCount ho0 fl_X10_68 dX10_compartmentAt_6 ?_
    refine ag_icmp_ge (tgt := 27) dX10_compartmentAt_9 (by decide) (fun h2 => ?_) (fun h2 => ?_)
    · refine ag_null dX10_compartmentAt_27 ?_
      exact ag_orpp (x := none) dX10_compartmentAt_28
    · refine ag_iload_n dX10_compartmentAt_12 rfl ?_
      refine ag_bipush (v := 8) dX10_compartmentAt_13 (by decide) ?_
      refine ag_icmp_ge (tgt := 27) dX10_compartmentAt_15 (by decide) (fun h3 => ?_) (fun h3 => ?_)
      · refine ag_null dX10_compartmentAt_27 ?_
        exact ag_orpp (x := none) dX10_compartmentAt_28
      · refine ag_aload_n dX10_compartmentAt_18 rfl ?_
        refine gC_X10_compartments ho0 fl_X10_25 dX10_compartmentAt_19 ?_
        refine ag_iload_n dX10_compartmentAt_22 rfl ?_
        refine ag_chk (fun h4 => ?_)
        have qh4 := inb_lt h4
        refine aC_21 (by decide) h4 dX10_compartmentAt_23 ?_
        refine ag_goto (tgt := 28) dX10_compartmentAt_24 (by decide) ?_
        exact ag_orpp (x := (some ((x1).toNatClampNeg))) dX10_compartmentAt_28
set_option maxRecDepth 100000 in
set_option maxHeartbeats 4000000 in
theorem c_X9_hasFrameLeft {l : Launch} {D : va_G} {cy : Nat → ClassId} {bs kb : Nat} {V : HV} (o0 : Nat) (ho0 : o0 < 6) {z : Bool} (hz : f_X9_hasFrameLeft kb o0 V = z) : CM l (aG 737 bs) D (tyL cy) (vwC cy bs kb) yX9_hasFrameLeft cX9_hasFrameLeft 1 (some .boolean) 0 0 tvZ [.ref (bs + posC 7 o0)] V (z, V) := by
  refine cm_of vwC_D (by decide +kernel) (own := RX9) rfl (Nat.le_of_ble_eq_true rfl) (L := [some (.ref (bs + posC 7 o0))]) rfl hz (fun Γ => ?_)
  unfold f_X9_hasFrameLeft
  refine ag_aload_n dX9_hasFrameLeft_0 rfl ?_
  refine gC_X9_frameCount ho0 fl_X9_79 dX9_hasFrameLeft_1 ?_
  refine ag_dv (j := 32) (L1 := fun _ => [some (.ref (bs + posC 7 o0))]) (st1 := fun v1 => [.int (b2i v1)]) (ws1 := fun _ => vwC cy bs kb V) (fun v1 => ?_) (fun k3 hk2 => ?_)
  · exact ag_zrp (x := v1) dX9_hasFrameLeft_32
  · refine ag_if_lt_v (tgt := 31) dX9_hasFrameLeft_4 (by decide) (fun h4 => ?_) (fun h4 => ?_)
    · refine ag_iconst (v := 0) dX9_hasFrameLeft_31 (by decide) ?_
      exact hk2 false
    · refine ag_aload_n dX9_hasFrameLeft_7 rfl ?_
      refine gC_X9_frameCount ho0 fl_X9_79 dX9_hasFrameLeft_8 ?_
      refine ag_aload_n dX9_hasFrameLeft_11 rfl ?_
      refine gC_X9_frameLimit ho0 fl_X9_42 dX9_hasFrameLeft_12 ?_
      refine ag_icmp_ge_v (tgt := 31) dX9_hasFrameLeft_15 (by decide) (fun h5 => ?_) (fun h5 => ?_)
      · refine ag_iconst (v := 0) dX9_hasFrameLeft_31 (by decide) ?_
        exact hk2 false
      · refine ag_aload_n dX9_hasFrameLeft_18 rfl ?_
        refine gC_X9_frameCount ho0 fl_X9_79 dX9_hasFrameLeft_19 ?_
        refine ag_bipush (v := 16) dX9_hasFrameLeft_22 (by decide) ?_
        refine ag_icmp_ge_v (tgt := 31) dX9_hasFrameLeft_24 (by decide) (fun h6 => ?_) (fun h6 => ?_)
        · refine ag_iconst (v := 0) dX9_hasFrameLeft_31 (by decide) ?_
          exact hk2 false
        · refine ag_iconst (v := 1) dX9_hasFrameLeft_27 (by decide) ?_
          refine ag_goto (tgt := 32) dX9_hasFrameLeft_28 (by decide) ?_
          exact hk2 true
set_option maxRecDepth 100000 in
set_option maxHeartbeats 4000000 in
theorem c_X9_keepFrame {l : Launch} {D : va_G} {cy : Nat → ClassId} {bs kb : Nat} {V : HV} (o0 : Nat) (ho0 : o0 < 6) {z : HV} (hz : f_X9_keepFrame kb o0 V = some z) : CM l (aG 737 bs) D (tyL cy) (vwC cy bs kb) yX9_keepFrame cX9_keepFrame 2 none 2 47 tvV [.ref (bs + posC 7 o0)] V ((), z) := by
  refine cm_of vwC_D (by decide +kernel) (own := RX9) rfl (Nat.le_of_ble_eq_true rfl) (L := [some (.ref (bs + posC 7 o0)), none]) rfl hz (fun Γ => ?_)
  unfold f_X9_keepFrame
  refine ag_aload_n dX9_keepFrame_0 rfl ?_
  refine ag_ivZp (c_X9_hasFrameLeft o0 ho0 rfl) vwC_D (vwC_at (kpC_7 _ ho0)) rfl cs_X9_133 rfl rfl (Nat.le_of_ble_eq_true rfl) ⟨by decide, by decide⟩ ⟨Nat.zero_le _, Nat.zero_le _⟩ dX9_keepFrame_1 ?_
  refine ag_ltZ (fun v1 => ?_)
  refine ag_bif_eq (tgt := 104) dX9_keepFrame_4 (by decide) (fun h2 => ?_) (fun h2 => ?_)
  · exact ag_vrep dX9_keepFrame_104
  · refine ag_aload_n dX9_keepFrame_7 rfl ?_
    refine gC_X9_frames ho0 fl_X9_24 dX9_keepFrame_8 ?_
    refine ag_aload_n dX9_keepFrame_11 rfl ?_
    refine gC_X9_frameCount ho0 fl_X9_79 dX9_keepFrame_12 ?_
    refine ag_chk (fun h3 => ?_)
    have qh3 := inb_lt h3
    refine aC_30 ho0 h3 dX9_keepFrame_15 ?_
    refine ag_astore_n (L' := [some (.ref (bs + posC 7 o0)), some (.ref (bs + posC 2 (16 * o0 + (V 704 o0 0).toNatClampNeg)))]) dX9_keepFrame_16 (by decide) rfl ?_
    refine ag_aload_n dX9_keepFrame_17 rfl ?_
    refine gC_X3_pcc (by omega) fl_X9_137 dX9_keepFrame_18 ?_
    refine ag_aload_n dX9_keepFrame_21 rfl ?_
    refine gC_X9_pcc ho0 fl_X9_18 dX9_keepFrame_22 ?_
    refine ag_ivVe (c_X0_copy (102 + 5 * (16 * o0 + (V 704 o0 0).toNatClampNeg)) (17 * o0 + 16) (by omega) (by omega) rfl) vwC_D (vwC_at (kpC_0 _ (by omega))) rfl cs_X9_138 rfl rfl (Nat.le_of_ble_eq_true rfl) ⟨by decide, by decide⟩ ⟨Nat.zero_le _, Nat.zero_le _⟩ dX9_keepFrame_25 ?_
    refine ag_ltV (fun V4 => ?_)
    refine ag_aload_n dX9_keepFrame_28 rfl ?_
    refine gC_X3_c2 (by omega) fl_X9_142 dX9_keepFrame_29 ?_
    refine ag_aload_n dX9_keepFrame_32 rfl ?_
    refine ag_iconst (v := 2) dX9_keepFrame_33 (by decide) ?_
    refine ag_ivRp (c_X9_reg o0 2 ho0 rfl) vwC_D (vwC_at (kpC_7 _ ho0)) rfl cs_X9_82 rfl rfl (Nat.le_of_ble_eq_true rfl) ⟨by decide, by decide⟩ ⟨Nat.zero_le _, Nat.zero_le _⟩ dX9_keepFrame_34 ?_
    refine ag_ivVe (c_X0_copy (103 + 5 * (16 * o0 + (V 704 o0 0).toNatClampNeg)) (f_X9_reg o0 2) (by omega) (ok_X9_reg ho0) rfl) vwC_D (vwC_at (kpC_0 _ (by omega))) rfl cs_X9_138 rfl rfl (Nat.le_of_ble_eq_true rfl) ⟨by decide, by decide⟩ ⟨Nat.zero_le _, Nat.zero_le _⟩ dX9_keepFrame_37 ?_
    refine ag_ltV (fun V5 => ?_)
    refine ag_aload_n dX9_keepFrame_40 rfl ?_
    refine gC_X3_c3 (by omega) fl_X9_145 dX9_keepFrame_41 ?_
    refine ag_aload_n dX9_keepFrame_44 rfl ?_
    refine ag_iconst (v := 3) dX9_keepFrame_45 (by decide) ?_
    refine ag_ivRp (c_X9_reg o0 3 ho0 rfl) vwC_D (vwC_at (kpC_7 _ ho0)) rfl cs_X9_82 rfl rfl (Nat.le_of_ble_eq_true rfl) ⟨by decide, by decide⟩ ⟨Nat.zero_le _, Nat.zero_le _⟩ dX9_keepFrame_46 ?_
    refine ag_ivVe (c_X0_copy (104 + 5 * (16 * o0 + (V 704 o0 0).toNatClampNeg)) (f_X9_reg o0 3) (by omega) (ok_X9_reg ho0) rfl) vwC_D (vwC_at (kpC_0 _ (by omega))) rfl cs_X9_138 rfl rfl (Nat.le_of_ble_eq_true rfl) ⟨by decide, by decide⟩ ⟨Nat.zero_le _, Nat.zero_le _⟩ dX9_keepFrame_49 ?_
    refine ag_ltV (fun V6 => ?_)
    refine ag_aload_n dX9_keepFrame_52 rfl ?_
    refine gC_X3_c8 (by omega) fl_X9_148 dX9_keepFrame_53 ?_
    refine ag_aload_n dX9_keepFrame_56 rfl ?_
    refine ag_bipush (v := 8) dX9_keepFrame_57 (by decide) ?_
    refine ag_ivRp (c_X9_reg o0 8 ho0 rfl) vwC_D (vwC_at (kpC_7 _ ho0)) rfl cs_X9_82 rfl rfl (Nat.le_of_ble_eq_true rfl) ⟨by decide, by decide⟩ ⟨Nat.zero_le _, Nat.zero_le _⟩ dX9_keepFrame_59 ?_
    refine ag_ivVe (c_X0_copy (105 + 5 * (16 * o0 + (V 704 o0 0).toNatClampNeg)) (f_X9_reg o0 8) (by omega) (ok_X9_reg ho0) rfl) vwC_D (vwC_at (kpC_0 _ (by omega))) rfl cs_X9_138 rfl rfl (Nat.le_of_ble_eq_true rfl) ⟨by decide, by decide⟩ ⟨Nat.zero_le _, Nat.zero_le _⟩ dX9_keepFrame_62 ?_
    refine ag_ltV (fun V7 => ?_)
    refine ag_aload_n dX9_keepFrame_65 rfl ?_
    refine gC_X3_c9 (by omega) fl_X9_151 dX9_keepFrame_66 ?_
    refine ag_aload_n dX9_keepFrame_69 rfl ?_
    refine ag_bipush (v := 9) dX9_keepFrame_70 (by decide) ?_
    refine ag_ivRp (c_X9_reg o0 9 ho0 rfl) vwC_D (vwC_at (kpC_7 _ ho0)) rfl cs_X9_82 rfl rfl (Nat.le_of_ble_eq_true rfl) ⟨by decide, by decide⟩ ⟨Nat.zero_le _, Nat.zero_le _⟩ dX9_keepFrame_72 ?_
    refine ag_ivVe (c_X0_copy (106 + 5 * (16 * o0 + (V 704 o0 0).toNatClampNeg)) (f_X9_reg o0 9) (by omega) (ok_X9_reg ho0) rfl) vwC_D (vwC_at (kpC_0 _ (by omega))) rfl cs_X9_138 rfl rfl (Nat.le_of_ble_eq_true rfl) ⟨by decide, by decide⟩ ⟨Nat.zero_le _, Nat.zero_le _⟩ dX9_keepFrame_75 ?_
    refine ag_ltV (fun V8 => ?_)
    refine ag_aload_n dX9_keepFrame_78 rfl ?_
    refine ag_aload_n dX9_keepFrame_79 rfl ?_
    refine gC_X9_interrupts ho0 fl_X9_48 dX9_keepFrame_80 ?_
    refine pC_X3_interrupts (x := (i2b (V8 710 o0 0))) (by omega) fl_X9_154 dX9_keepFrame_83 ?_
    refine ag_ltV (fun V9 => ?_)
    refine ag_aload_n dX9_keepFrame_86 rfl ?_
    refine ag_aload_n dX9_keepFrame_87 rfl ?_
    refine gC_X9_compartment ho0 fl_X9_90 dX9_keepFrame_88 ?_
    refine pC_X3_compartment (by omega) fl_X9_155 dX9_keepFrame_91 ?_
    refine ag_ltV (fun V10 => ?_)
    refine ag_aload_n dX9_keepFrame_94 rfl ?_
    refine ag_dup dX9_keepFrame_95 rfl ?_
    refine gC_X9_frameCount ho0 fl_X9_79 dX9_keepFrame_96 ?_
    refine ag_iconst (v := 1) dX9_keepFrame_99 (by decide) ?_
    refine ag_iadd dX9_keepFrame_100 ?_
    refine pC_X9_frameCount ho0 fl_X9_79 dX9_keepFrame_101 ?_
    refine ag_ltV (fun V11 => ?_)
    exact ag_vrep dX9_keepFrame_104
set_option maxRecDepth 100000 in
set_option maxHeartbeats 4000000 in
theorem c_X8_erase {l : Launch} {D : va_G} {cy : Nat → ClassId} {bs kb : Nat} {V : HV} (o0 : Nat) (x1 : Int32) (x2 : Int32) (ho0 : o0 < 1) {z : HV} (hz : f_X8_erase kb o0 x1 x2 V = some z) : CM l (aG 737 bs) D (tyL cy) (vwC cy bs kb) yX8_erase cX8_erase 4 none 0 0 tvV [.ref (bs + posC 6 o0), .int x1, .int x2] V ((), z) := by
  refine cm_of vwC_D (by decide +kernel) (own := RX8) rfl (Nat.le_of_ble_eq_true rfl) (L := [some (.ref (bs + posC 6 o0)), some (.int x1), some (.int x2), none]) rfl hz (fun Γ => ?_)
  unfold f_X8_erase
  refine ag_iload_n dX8_erase_0 rfl ?_
  refine ag_if_lt (tgt := 78) dX8_erase_1 (by decide) (fun h1 => ?_) (fun h1 => ?_)
  · exact ag_vrep dX8_erase_78
  · refine ag_iload_n dX8_erase_4 rfl ?_
    refine ag_iload_n dX8_erase_5 rfl ?_
    refine ag_icmp_gt (tgt := 78) dX8_erase_6 (by decide) (fun h2 => ?_) (fun h2 => ?_)
    · exact ag_vrep dX8_erase_78
    · refine ag_iload_n dX8_erase_9 rfl ?_
      refine ag_aload_n dX8_erase_10 rfl ?_
      refine gC_X8_bytes ho0 fl_X8_9 dX8_erase_11 ?_
      refine nC_23 (by decide) dX8_erase_14 ?_
      refine ag_icmp_gt (tgt := 78) dX8_erase_15 (by decide) (fun h3 => ?_) (fun h3 => ?_)
      · exact ag_vrep dX8_erase_78
      · refine ag_iload_n dX8_erase_18 rfl ?_
        refine ag_istore_n (L' := [some (.ref (bs + posC 6 o0)), some (.int x1), some (.int x2), some (.int x1)]) dX8_erase_19 (by decide) rfl ?_
        refine ag_jn1 (j := 38) (L1 := fun V6 => [some (.ref (bs + posC 6 o0)), some (.int x1), some (.int x2), none]) (st1 := fun V6 => []) (ws1 := fun V6 => vwC cy bs kb V6) (fun V6 => ?_) (fun k4 hk5 => ?_)
        · refine ag_iload_n dX8_erase_38 rfl ?_
          refine ag_bipush (v := 16) dX8_erase_39 (by decide) ?_
          refine ag_idiv dX8_erase_41 (by decide) ?_
          refine ag_ltI (fun v7 => ?_)
          refine ag_istore_n (L' := [some (.ref (bs + posC 6 o0)), some (.int x1), some (.int x2), some (.int v7)]) dX8_erase_42 (by decide) rfl ?_
          refine ag_jn1 (j := 78) (L1 := fun V10 => [some (.ref (bs + posC 6 o0)), some (.int x1), some (.int x2), none]) (st1 := fun V10 => []) (ws1 := fun V10 => vwC cy bs kb V10) (fun V10 => ?_) (fun k8 hk9 => ?_)
          · exact ag_vrep dX8_erase_78
          · refine ag_loop2 (F := f_X8_erase_L43 x2 kb k8) (L1 := fun v11 V12 => [some (.ref (bs + posC 6 o0)), some (.int x1), some (.int x2), some (.int v11)]) (st1 := fun v11 V12 => []) (ws1 := fun v11 V12 => vwC cy bs kb V12) (fun n13 ih14 v11 V12 => ?_) (fun _ _ => rfl) FU v7 V6
            rw [f_X8_erase_L43]
            refine ag_iload_n dX8_erase_43 rfl ?_
            refine ag_iload_n dX8_erase_44 rfl ?_
            refine ag_bipush (v := 16) dX8_erase_45 (by decide) ?_
            refine ag_idiv dX8_erase_47 (by decide) ?_
            refine ag_icmp_ge (tgt := 78) dX8_erase_48 (by decide) (fun h15 => ?_) (fun h15 => ?_)
            · refine ag_drop [3] (L' := [some (.ref (bs + posC 6 o0)), some (.int x1), some (.int x2), none]) rfl ?_
              exact hk9 V12
            · refine ag_iload_n dX8_erase_51 rfl ?_
              refine ag_aload_n dX8_erase_52 rfl ?_
              refine gC_X8_marks ho0 fl_X8_15 dX8_erase_53 ?_
              refine nC_24 (by decide) dX8_erase_56 ?_
              refine ag_icmp_ge (tgt := 78) dX8_erase_57 (by decide) (fun h16 => ?_) (fun h16 => ?_)
              · refine ag_drop [3] (L' := [some (.ref (bs + posC 6 o0)), some (.int x1), some (.int x2), none]) rfl ?_
                exact hk9 V12
              · refine ag_aload_n dX8_erase_60 rfl ?_
                refine gC_X8_marks ho0 fl_X8_15 dX8_erase_61 ?_
                refine ag_iload_n dX8_erase_64 rfl ?_
                refine ag_dup2 dX8_erase_65 rfl rfl ?_
                refine ag_chk (fun h17 => ?_)
                refine aC_24 (by decide) h17 dX8_erase_66 ?_
                refine ag_bipush (v := (-2)) dX8_erase_67 (by decide) ?_
                refine ag_iand dX8_erase_69 ?_
                refine ag_i2b dX8_erase_70 ?_
                refine ag_chk (fun h18 => ?_)
                refine sC_24 (by decide) h18 dX8_erase_71 ?_
                refine ag_ltV (fun V19 => ?_)
                refine ag_iincL (L' := fun v20 => [some (.ref (bs + posC 6 o0)), some (.int x1), some (.int x2), some (.int v20)]) dX8_erase_72 (by decide) rfl (by decide) (fun _ => rfl) (fun v20 => ?_)
                refine ag_goto (tgt := 43) dX8_erase_75 (by decide) ?_
                exact ih14 v20 V19
        · refine ag_loop2 (F := f_X8_erase_L20 x2 kb k4) (L1 := fun v21 V22 => [some (.ref (bs + posC 6 o0)), some (.int x1), some (.int x2), some (.int v21)]) (st1 := fun v21 V22 => []) (ws1 := fun v21 V22 => vwC cy bs kb V22) (fun n23 ih24 v21 V22 => ?_) (fun _ _ => rfl) FU x1 V
          rw [f_X8_erase_L20]
          refine ag_iload_n dX8_erase_20 rfl ?_
          refine ag_iload_n dX8_erase_21 rfl ?_
          refine ag_icmp_ge (tgt := 38) dX8_erase_22 (by decide) (fun h25 => ?_) (fun h25 => ?_)
          · refine ag_drop [3] (L' := [some (.ref (bs + posC 6 o0)), some (.int x1), some (.int x2), none]) rfl ?_
            exact hk5 V22
          · refine ag_aload_n dX8_erase_25 rfl ?_
            refine gC_X8_bytes ho0 fl_X8_9 dX8_erase_26 ?_
            refine ag_iload_n dX8_erase_29 rfl ?_
            refine ag_iconst (v := 0) dX8_erase_30 (by decide) ?_
            refine ag_chk (fun h26 => ?_)
            refine sC_23 (by decide) h26 dX8_erase_31 ?_
            refine ag_ltV (fun V27 => ?_)
            refine ag_iincL (L' := fun v28 => [some (.ref (bs + posC 6 o0)), some (.int x1), some (.int x2), some (.int v28)]) dX8_erase_32 (by decide) rfl (by decide) (fun _ => rfl) (fun v28 => ?_)
            refine ag_goto (tgt := 20) dX8_erase_35 (by decide) ?_
            exact ih24 v28 V27
set_option maxRecDepth 100000 in
set_option maxHeartbeats 4000000 in
theorem c_X9_forget {l : Launch} {D : va_G} {cy : Nat → ClassId} {bs kb : Nat} {V : HV} (o0 : Nat) (x1 : Int32) (x2 : Int32) (ho0 : o0 < 6) {z : HV} (hz : f_X9_forget kb o0 x1 x2 V = some z) : CM l (aG 737 bs) D (tyL cy) (vwC cy bs kb) yX9_forget cX9_forget 4 none 2 46 tvV [.ref (bs + posC 7 o0), .int x1, .int x2] V ((), z) := by
  refine cm_of vwC_D (by decide +kernel) (own := RX9) rfl (Nat.le_of_ble_eq_true rfl) (L := [some (.ref (bs + posC 7 o0)), some (.int x1), some (.int x2), none]) rfl hz (fun Γ => ?_)
  unfold f_X9_forget
  refine ag_iload_n dX9_forget_0 rfl ?_
  refine ag_istore_n (L' := [some (.ref (bs + posC 7 o0)), some (.int x1), some (.int x2), some (.int x1)]) dX9_forget_1 (by decide) rfl ?_
  refine ag_jn1 (j := 21) (L1 := fun V3 => [some (.ref (bs + posC 7 o0)), some (.int x1), some (.int x2), none]) (st1 := fun V3 => []) (ws1 := fun V3 => vwC cy bs kb V3) (fun V3 => ?_) (fun k1 hk2 => ?_)
  · exact ag_vrep dX9_forget_21
  · refine ag_loop2 (F := f_X9_forget_L2 o0 x2 kb k1) (L1 := fun v4 V5 => [some (.ref (bs + posC 7 o0)), some (.int x1), some (.int x2), some (.int v4)]) (st1 := fun v4 V5 => []) (ws1 := fun v4 V5 => vwC cy bs kb V5) (fun n6 ih7 v4 V5 => ?_) (fun _ _ => rfl) FU x1 V
    rw [f_X9_forget_L2]
    refine ag_iload_n dX9_forget_2 rfl ?_
    refine ag_iload_n dX9_forget_3 rfl ?_
    refine ag_icmp_gt (tgt := 21) dX9_forget_4 (by decide) (fun h8 => ?_) (fun h8 => ?_)
    · refine ag_drop [3] (L' := [some (.ref (bs + posC 7 o0)), some (.int x1), some (.int x2), none]) rfl ?_
      exact hk2 V5
    · refine ag_aload_n dX9_forget_7 rfl ?_
      refine ag_iload_n dX9_forget_8 rfl ?_
      refine ag_ivRp (c_X9_reg o0 v4 ho0 rfl) vwC_D (vwC_at (kpC_7 _ ho0)) rfl cs_X9_82 rfl rfl (Nat.le_of_ble_eq_true rfl) ⟨by decide, by decide⟩ ⟨Nat.zero_le _, Nat.zero_le _⟩ dX9_forget_9 ?_
      refine ag_ivVe (c_X0_clear (f_X9_reg o0 v4) (ok_X9_reg ho0) rfl) vwC_D (vwC_at (kpC_0 _ (ok_X9_reg ho0))) rfl cs_X9_76 rfl rfl (Nat.le_of_ble_eq_true rfl) ⟨by decide, by decide⟩ ⟨Nat.zero_le _, Nat.zero_le _⟩ dX9_forget_12 ?_
      refine ag_ltV (fun V9 => ?_)
      refine ag_iincL (L' := fun v10 => [some (.ref (bs + posC 7 o0)), some (.int x1), some (.int x2), some (.int v10)]) dX9_forget_15 (by decide) rfl (by decide) (fun _ => rfl) (fun v10 => ?_)
      refine ag_goto (tgt := 2) dX9_forget_18 (by decide) ?_
      exact ih7 v10 V9
set_option maxRecDepth 100000 in
set_option maxHeartbeats 4000000 in
theorem c_X9_enter {l : Launch} {D : va_G} {cy : Nat → ClassId} {bs kb : Nat} {V : HV} (o0 : Nat) (o1 : Nat) (x2 : Int32) (x3 : Int32) (x4 : Int32) (ho0 : o0 < 6) (ho1 : o1 < 8) {z : HV} (hz : f_X9_enter kb o0 o1 x2 x3 x4 V = some z) : CM l (aG 737 bs) D (tyL cy) (vwC cy bs kb) yX9_enter cX9_enter 5 none 3 69 tvV [.ref (bs + posC 7 o0), .ref (bs + posC 1 o1), .int x2, .int x3, .int x4] V ((), z) := by
  refine cm_of vwC_D (by decide +kernel) (own := RX9) rfl (Nat.le_of_ble_eq_true rfl) (L := [some (.ref (bs + posC 7 o0)), some (.ref (bs + posC 1 o1)), some (.int x2), some (.int x3), some (.int x4)]) rfl hz (fun Γ => ?_)
  unfold f_X9_enter
  refine ag_aload_n dX9_enter_0 rfl ?_
  refine ag_iconst (v := 0) dX9_enter_1 (by decide) ?_
  refine ag_bipush (v := 9) dX9_enter_2 (by decide) ?_
  refine ag_bnd (fun p1 hp1 => ?_)
  refine ag_ivVe (c_X9_forget o0 0 9 ho0 hp1) vwC_D (vwC_at (kpC_7 _ ho0)) rfl cs_X9_86 rfl rfl (Nat.le_of_ble_eq_true rfl) ⟨by decide, by decide⟩ ⟨Nat.zero_le _, Nat.zero_le _⟩ dX9_enter_4 ?_
  refine ag_aload_n dX9_enter_7 rfl ?_
  refine ag_iload_n dX9_enter_8 rfl ?_
  refine pC_X9_compartment ho0 fl_X9_90 dX9_enter_9 ?_
  refine ag_ltV (fun V2 => ?_)
  refine ag_aload_n dX9_enter_12 rfl ?_
  refine ag_aload_n dX9_enter_13 rfl ?_
  refine ag_iload_n dX9_enter_14 rfl ?_
  refine ag_aload_n dX9_enter_15 rfl ?_
  refine gC_X9_interrupts ho0 fl_X9_48 dX9_enter_16 ?_
  refine ag_bnd (fun p3 hp3 => ?_)
  refine ag_ivZp (c_X1_interruptsAt o1 x3 (i2b (V2 710 o0 0)) ho1 hp3) vwC_D (vwC_at (kpC_1 _ ho1)) rfl cs_X9_93 rfl rfl (Nat.le_of_ble_eq_true rfl) ⟨by decide, by decide⟩ ⟨Nat.zero_le _, Nat.zero_le _⟩ dX9_enter_19 ?_
  refine pC_X9_interrupts (x := p3) ho0 fl_X9_48 dX9_enter_22 ?_
  refine ag_ltV (fun V4 => ?_)
  refine ag_aload_n dX9_enter_25 rfl ?_
  refine ag_aload_n dX9_enter_26 rfl ?_
  refine gC_X9_pcc ho0 fl_X9_18 dX9_enter_27 ?_
  refine ag_iload_n dX9_enter_30 rfl ?_
  refine ag_bnd (fun p5 hp5 => ?_)
  refine ag_ivVe (c_X1_codeTo o1 (17 * o0 + 16) x3 ho1 (by omega) hp5) vwC_D (vwC_at (kpC_1 _ ho1)) rfl cs_X9_99 rfl rfl (Nat.le_of_ble_eq_true rfl) ⟨by decide, by decide⟩ ⟨Nat.zero_le _, Nat.zero_le _⟩ dX9_enter_31 ?_
  refine ag_aload_n dX9_enter_34 rfl ?_
  refine ag_iconst (v := 1) dX9_enter_35 (by decide) ?_
  refine ag_ivRp (c_X9_reg o0 1 ho0 rfl) vwC_D (vwC_at (kpC_7 _ ho0)) rfl cs_X9_82 rfl rfl (Nat.le_of_ble_eq_true rfl) ⟨by decide, by decide⟩ ⟨Nat.zero_le _, Nat.zero_le _⟩ dX9_enter_36 ?_
  refine ag_iconst (v := 0) dX9_enter_39 (by decide) ?_
  refine ag_iconst (v := 0) dX9_enter_40 (by decide) ?_
  refine ag_iconst (v := 0) dX9_enter_41 (by decide) ?_
  refine ag_iconst (v := 0) dX9_enter_42 (by decide) ?_
  refine ag_iconst (v := 5) dX9_enter_43 (by decide) ?_
  refine ag_iconst (v := 1) dX9_enter_44 (by decide) ?_
  refine ag_ivVe (c_X0_set (f_X9_reg o0 1) 0 0 0 0 5 true (ok_X9_reg ho0) rfl) vwC_D (vwC_at (kpC_0 _ (ok_X9_reg ho0))) rfl cs_X9_103 rfl rfl (Nat.le_of_ble_eq_true rfl) ⟨by decide, by decide⟩ ⟨Nat.zero_le _, Nat.zero_le _⟩ dX9_enter_45 ?_
  refine ag_ltV (fun V6 => ?_)
  refine ag_aload_n dX9_enter_48 rfl ?_
  refine ag_iconst (v := 2) dX9_enter_49 (by decide) ?_
  refine ag_ivRp (c_X9_reg o0 2 ho0 rfl) vwC_D (vwC_at (kpC_7 _ ho0)) rfl cs_X9_82 rfl rfl (Nat.le_of_ble_eq_true rfl) ⟨by decide, by decide⟩ ⟨Nat.zero_le _, Nat.zero_le _⟩ dX9_enter_50 ?_
  refine ag_iload dX9_enter_53 rfl ?_
  refine ag_aload_n dX9_enter_55 rfl ?_
  refine gC_X9_stackBase ho0 fl_X9_107 dX9_enter_56 ?_
  refine ag_iload dX9_enter_59 rfl ?_
  refine ag_sipush (v := 155) dX9_enter_61 (by decide) ?_
  refine ag_iconst (v := 0) dX9_enter_64 (by decide) ?_
  refine ag_iconst (v := 1) dX9_enter_65 (by decide) ?_
  refine ag_ivVe (c_X0_set (f_X9_reg o0 2) x4 (V6 707 o0 0) x4 155 0 true (ok_X9_reg ho0) rfl) vwC_D (vwC_at (kpC_0 _ (ok_X9_reg ho0))) rfl cs_X9_103 rfl rfl (Nat.le_of_ble_eq_true rfl) ⟨by decide, by decide⟩ ⟨Nat.zero_le _, Nat.zero_le _⟩ dX9_enter_66 ?_
  refine ag_ltV (fun V7 => ?_)
  refine ag_aload_n dX9_enter_69 rfl ?_
  refine ag_aload_n dX9_enter_70 rfl ?_
  refine ag_iconst (v := 3) dX9_enter_71 (by decide) ?_
  refine ag_ivRp (c_X9_reg o0 3 ho0 rfl) vwC_D (vwC_at (kpC_7 _ ho0)) rfl cs_X9_82 rfl rfl (Nat.le_of_ble_eq_true rfl) ⟨by decide, by decide⟩ ⟨Nat.zero_le _, Nat.zero_le _⟩ dX9_enter_72 ?_
  refine ag_bipush (v := 91) dX9_enter_75 (by decide) ?_
  refine ag_ivVe (c_X1_globalsTo o1 (f_X9_reg o0 3) 91 ho1 (ok_X9_reg ho0) rfl) vwC_D (vwC_at (kpC_1 _ ho1)) rfl cs_X9_110 rfl rfl (Nat.le_of_ble_eq_true rfl) ⟨by decide, by decide⟩ ⟨Nat.zero_le _, Nat.zero_le _⟩ dX9_enter_77 ?_
  refine ag_ltV (fun V8 => ?_)
  refine ag_aload_n dX9_enter_80 rfl ?_
  refine ag_iload dX9_enter_81 rfl ?_
  refine pC_X9_stackTop ho0 fl_X9_113 dX9_enter_83 ?_
  refine ag_ltV (fun V9 => ?_)
  exact ag_vrep dX9_enter_86
set_option maxRecDepth 100000 in
set_option maxHeartbeats 4000000 in
theorem c_X2_call {l : Launch} {D : va_G} {cy : Nat → ClassId} {bs kb : Nat} {V : HV} (o0 : Nat) (o1 : Nat) (x2 : Int32) (ho0 : o0 < 1) (ho1 : o1 < 6) {z : Int32 × HV} (hz : f_X2_call kb o0 o1 x2 V = some z) : CM l (aG 737 bs) D (tyL cy) (vwC cy bs kb) yX2_call cX2_call 5 (some .int) 4 93 tvI [.ref (bs + posC 8 o0), .ref (bs + posC 7 o1), .int x2] V z := by
  refine cm_of vwC_D (by decide +kernel) (own := RX2) rfl (Nat.le_of_ble_eq_true rfl) (L := [some (.ref (bs + posC 8 o0)), some (.ref (bs + posC 7 o1)), some (.int x2), none, none]) rfl hz (fun Γ => ?_)
  unfold f_X2_call
  refine ag_aload_n dX2_call_0 rfl ?_
  refine ag_ivZp (c_X9_stackIsAsGiven o1 ho1 rfl) vwC_D (vwC_at (kpC_7 _ ho1)) rfl cs_X2_259 rfl rfl (Nat.le_of_ble_eq_true rfl) ⟨by decide, by decide⟩ ⟨Nat.zero_le _, Nat.zero_le _⟩ dX2_call_1 ?_
  refine ag_ltZ (fun v1 => ?_)
  refine ag_bif_ne (tgt := 10) dX2_call_4 (by decide) (fun h2 => ?_) (fun h2 => ?_)
  · refine ag_aload_n dX2_call_10 rfl ?_
    refine ag_iload_n dX2_call_11 rfl ?_
    refine ag_iconst (v := 4) dX2_call_12 (by decide) ?_
    refine ag_ishr dX2_call_13 ?_
    refine ag_bnd (fun p3 hp3 => ?_)
    refine ag_ivOp (c_X10_compartmentAt o0 (x2 >>> ((4 : Int32) &&& 31)) ho0 hp3) vwC_D (vwC_at (kpC_8 _ ho0)) rfl cs_X2_263 rfl rfl (Nat.le_of_ble_eq_true rfl) ⟨by decide, by decide⟩ ⟨Nat.zero_le _, Nat.zero_le _⟩ dX2_call_14 ?_
    refine ag_ostore_n (L' := [some (.ref (bs + posC 8 o0)), some (.ref (bs + posC 7 o1)), some (.int x2), some (va_rf (p3.map (fun x => bs + posC 1 x))), none]) dX2_call_17 (by decide) rfl ?_
    refine ag_oload_n dX2_call_18 rfl ?_
    refine ag_jn0 (j := 29) (L1 := [some (.ref (bs + posC 8 o0)), some (.ref (bs + posC 7 o1)), some (.int x2), some (va_rf (p3.map (fun x => bs + posC 1 x))), none]) (st1 := []) (ws1 := vwC cy bs kb V) (?_) (fun k4 hk5 => ?_)
    · refine ag_aload_n dX2_call_29 rfl ?_
      refine ag_bipush (v := 10) dX2_call_30 (by decide) ?_
      refine ag_ivRp (c_X9_reg o1 10 ho1 rfl) vwC_D (vwC_at (kpC_7 _ ho1)) rfl cs_X2_71 rfl rfl (Nat.le_of_ble_eq_true rfl) ⟨by decide, by decide⟩ ⟨Nat.zero_le _, Nat.zero_le _⟩ dX2_call_32 ?_
      refine ag_iconst (v := (-1)) dX2_call_35 (by decide) ?_
      refine ag_ivVe (c_X0_number (f_X9_reg o1 10) (-1) (ok_X9_reg ho1) rfl) vwC_D (vwC_at (kpC_0 _ (ok_X9_reg ho1))) rfl cs_X2_94 rfl rfl (Nat.le_of_ble_eq_true rfl) ⟨by decide, by decide⟩ ⟨Nat.zero_le _, Nat.zero_le _⟩ dX2_call_36 ?_
      refine ag_ltV (fun V6 => ?_)
      refine ag_aload_n dX2_call_39 rfl ?_
      refine ag_bipush (v := 11) dX2_call_40 (by decide) ?_
      refine ag_ivRp (c_X9_reg o1 11 ho1 rfl) vwC_D (vwC_at (kpC_7 _ ho1)) rfl cs_X2_71 rfl rfl (Nat.le_of_ble_eq_true rfl) ⟨by decide, by decide⟩ ⟨Nat.zero_le _, Nat.zero_le _⟩ dX2_call_42 ?_
      refine ag_bipush (v := 8) dX2_call_45 (by decide) ?_
      refine ag_ivVe (c_X0_number (f_X9_reg o1 11) 8 (ok_X9_reg ho1) rfl) vwC_D (vwC_at (kpC_0 _ (ok_X9_reg ho1))) rfl cs_X2_94 rfl rfl (Nat.le_of_ble_eq_true rfl) ⟨by decide, by decide⟩ ⟨Nat.zero_le _, Nat.zero_le _⟩ dX2_call_47 ?_
      refine ag_ltV (fun V7 => ?_)
      refine ag_iconst (v := 0) dX2_call_50 (by decide) ?_
      exact ag_irep dX2_call_51
    · refine ag_ifnull (tgt := 29) dX2_call_19 (by decide) (fun eh9 => ?_) (fun a8 eh9 => ?_)
      · subst eh9
        refine ag_Lc (L' := [some (.ref (bs + posC 8 o0)), some (.ref (bs + posC 7 o1)), some (.int x2), some (.null), none]) rfl ?_
        exact hk5
      · subst eh9
        refine ag_chk (fun h9 => ?_)
        refine ag_Lc (L' := [some (.ref (bs + posC 8 o0)), some (.ref (bs + posC 7 o1)), some (.int x2), some (.ref (bs + posC 1 a8)), none]) rfl ?_
        refine ag_aload_n dX2_call_22 rfl ?_
        refine ag_ivZp (c_X9_hasFrameLeft o1 ho1 rfl) vwC_D (vwC_at (kpC_7 _ ho1)) rfl cs_X2_267 rfl rfl (Nat.le_of_ble_eq_true rfl) ⟨by decide, by decide⟩ ⟨Nat.zero_le _, Nat.zero_le _⟩ dX2_call_23 ?_
        refine ag_ltZ (fun v10 => ?_)
        refine ag_bif_ne (tgt := 52) dX2_call_26 (by decide) (fun h11 => ?_) (fun h11 => ?_)
        · refine ag_aload_n dX2_call_52 rfl ?_
          refine ag_iconst (v := 2) dX2_call_53 (by decide) ?_
          refine ag_ivRp (c_X9_reg o1 2 ho1 rfl) vwC_D (vwC_at (kpC_7 _ ho1)) rfl cs_X2_71 rfl rfl (Nat.le_of_ble_eq_true rfl) ⟨by decide, by decide⟩ ⟨Nat.zero_le _, Nat.zero_le _⟩ dX2_call_54 ?_
          refine gC_X0_cursor (ok_X9_reg ho1) fl_X2_31 dX2_call_57 ?_
          refine ag_ltI (fun v12 => ?_)
          refine ag_istore (L' := [some (.ref (bs + posC 8 o0)), some (.ref (bs + posC 7 o1)), some (.int x2), some (.ref (bs + posC 1 a8)), some (.int v12)]) dX2_call_60 (by decide) rfl ?_
          refine ag_aload_n dX2_call_62 rfl ?_
          refine ag_dup dX2_call_63 rfl ?_
          refine gC_X10_calls ho0 fl_X2_270 dX2_call_64 ?_
          refine ag_iconst (v := 1) dX2_call_67 (by decide) ?_
          refine ag_iadd dX2_call_68 ?_
          refine pC_X10_calls ho0 fl_X2_270 dX2_call_69 ?_
          refine ag_ltV (fun V13 => ?_)
          refine ag_aload_n dX2_call_72 rfl ?_
          refine ag_bnd (fun p14 hp14 => ?_)
          refine ag_ivVe (c_X9_keepFrame o1 ho1 hp14) vwC_D (vwC_at (kpC_7 _ ho1)) rfl cs_X2_273 rfl rfl (Nat.le_of_ble_eq_true rfl) ⟨by decide, by decide⟩ ⟨Nat.zero_le _, Nat.zero_le _⟩ dX2_call_73 ?_
          refine ag_aload_n dX2_call_76 rfl ?_
          refine gC_X10_store ho0 fl_X2_40 dX2_call_77 ?_
          refine ag_aload_n dX2_call_80 rfl ?_
          refine gC_X9_stackBase ho1 fl_X2_276 dX2_call_81 ?_
          refine ag_iload dX2_call_84 rfl ?_
          refine ag_bnd (fun p15 hp15 => ?_)
          refine ag_ivVe (c_X8_erase 0 (p14 707 o1 0) v12 (by decide) hp15) vwC_D (vwC_at (kpC_6 _ (by decide))) rfl cs_X2_279 rfl rfl (Nat.le_of_ble_eq_true rfl) ⟨by decide, by decide⟩ ⟨Nat.zero_le _, Nat.zero_le _⟩ dX2_call_86 ?_
          refine ag_aload_n dX2_call_89 rfl ?_
          refine ag_aload_n dX2_call_90 rfl ?_
          refine ag_iload_n dX2_call_91 rfl ?_
          refine ag_iconst (v := 4) dX2_call_92 (by decide) ?_
          refine ag_ishr dX2_call_93 ?_
          refine ag_iload_n dX2_call_94 rfl ?_
          refine ag_bipush (v := 15) dX2_call_95 (by decide) ?_
          refine ag_iand dX2_call_97 ?_
          refine ag_iload dX2_call_98 rfl ?_
          refine ag_bnd (fun p16 hp16 => ?_)
          refine ag_ivVe (c_X9_enter o1 a8 (x2 >>> ((4 : Int32) &&& 31)) (x2 &&& 15) v12 ho1 h9 hp16) vwC_D (vwC_at (kpC_7 _ ho1)) rfl cs_X2_282 rfl rfl (Nat.le_of_ble_eq_true rfl) ⟨by decide, by decide⟩ ⟨Nat.zero_le _, Nat.zero_le _⟩ dX2_call_100 ?_
          refine ag_iconst (v := 0) dX2_call_103 (by decide) ?_
          exact ag_irep dX2_call_104
        · exact hk5
  · refine ag_bipush (v := 7) dX2_call_7 (by decide) ?_
    exact ag_irep dX2_call_9
set_option maxRecDepth 100000 in
set_option maxHeartbeats 4000000 in
theorem c_X9_forgetAll {l : Launch} {D : va_G} {cy : Nat → ClassId} {bs kb : Nat} {V : HV} (o0 : Nat) (ho0 : o0 < 6) {z : HV} (hz : f_X9_forgetAll kb o0 V = some z) : CM l (aG 737 bs) D (tyL cy) (vwC cy bs kb) yX9_forgetAll cX9_forgetAll 5 none 2 46 tvV [.ref (bs + posC 7 o0)] V ((), z) := by
  refine cm_of vwC_D (by decide +kernel) (own := RX9) rfl (Nat.le_of_ble_eq_true rfl) (L := [some (.ref (bs + posC 7 o0)), none, none, none, none]) rfl hz (fun Γ => ?_)
  unfold f_X9_forgetAll
  refine ag_aload_n dX9_forgetAll_0 rfl ?_
  refine gC_X9_regs ho0 fl_X9_13 dX9_forgetAll_1 ?_
  refine ag_astore_n (L' := [some (.ref (bs + posC 7 o0)), some (.ref (bs + posC 29 o0)), none, none, none]) dX9_forgetAll_4 (by decide) rfl ?_
  refine ag_aload_n dX9_forgetAll_5 rfl ?_
  refine nC_29 ho0 dX9_forgetAll_6 ?_
  refine ag_ltI (fun v1 => ?_)
  refine ag_istore_n (L' := [some (.ref (bs + posC 7 o0)), some (.ref (bs + posC 29 o0)), some (.int v1), none, none]) dX9_forgetAll_7 (by decide) rfl ?_
  refine ag_iconst (v := 0) dX9_forgetAll_8 (by decide) ?_
  refine ag_istore_n (L' := [some (.ref (bs + posC 7 o0)), some (.ref (bs + posC 29 o0)), some (.int v1), some (.int 0), none]) dX9_forgetAll_9 (by decide) rfl ?_
  refine ag_jn1 (j := 31) (L1 := fun V4 => [some (.ref (bs + posC 7 o0)), some (.ref (bs + posC 29 o0)), some (.int v1), none, none]) (st1 := fun V4 => []) (ws1 := fun V4 => vwC cy bs kb V4) (fun V4 => ?_) (fun k2 hk3 => ?_)
  · refine ag_aload_n dX9_forgetAll_31 rfl ?_
    refine gC_X9_pcc ho0 fl_X9_18 dX9_forgetAll_32 ?_
    refine ag_ivVe (c_X0_clear (17 * o0 + 16) (by omega) rfl) vwC_D (vwC_at (kpC_0 _ (by omega))) rfl cs_X9_76 rfl rfl (Nat.le_of_ble_eq_true rfl) ⟨by decide, by decide⟩ ⟨Nat.zero_le _, Nat.zero_le _⟩ dX9_forgetAll_35 ?_
    refine ag_ltV (fun V5 => ?_)
    refine ag_aload_n dX9_forgetAll_38 rfl ?_
    refine ag_iconst (v := 0) dX9_forgetAll_39 (by decide) ?_
    refine pC_X9_frameCount ho0 fl_X9_79 dX9_forgetAll_40 ?_
    refine ag_ltV (fun V6 => ?_)
    exact ag_vrep dX9_forgetAll_43
  · refine ag_loop2 (F := f_X9_forgetAll_L10 o0 kb v1 k2) (L1 := fun v7 V8 => [some (.ref (bs + posC 7 o0)), some (.ref (bs + posC 29 o0)), some (.int v1), some (.int v7), none]) (st1 := fun v7 V8 => []) (ws1 := fun v7 V8 => vwC cy bs kb V8) (fun n9 ih10 v7 V8 => ?_) (fun _ _ => rfl) FU 0 V
    rw [f_X9_forgetAll_L10]
    refine ag_iload_n dX9_forgetAll_10 rfl ?_
    refine ag_iload_n dX9_forgetAll_11 rfl ?_
    refine ag_icmp_ge (tgt := 31) dX9_forgetAll_12 (by decide) (fun h11 => ?_) (fun h11 => ?_)
    · refine ag_drop [3] (L' := [some (.ref (bs + posC 7 o0)), some (.ref (bs + posC 29 o0)), some (.int v1), none, none]) rfl ?_
      exact hk3 V8
    · refine ag_aload_n dX9_forgetAll_15 rfl ?_
      refine ag_iload_n dX9_forgetAll_16 rfl ?_
      refine ag_chk (fun h12 => ?_)
      have qh12 := inb_lt h12
      refine aC_29 ho0 h12 dX9_forgetAll_17 ?_
      refine ag_astore (L' := [some (.ref (bs + posC 7 o0)), some (.ref (bs + posC 29 o0)), some (.int v1), some (.int v7), some (.ref (bs + posC 0 (17 * o0 + (v7).toNatClampNeg)))]) dX9_forgetAll_18 (by decide) rfl ?_
      refine ag_aload dX9_forgetAll_20 rfl ?_
      refine ag_ivVe (c_X0_clear (17 * o0 + (v7).toNatClampNeg) (by omega) rfl) vwC_D (vwC_at (kpC_0 _ (by omega))) rfl cs_X9_76 rfl rfl (Nat.le_of_ble_eq_true rfl) ⟨by decide, by decide⟩ ⟨Nat.zero_le _, Nat.zero_le _⟩ dX9_forgetAll_22 ?_
      refine ag_ltV (fun V13 => ?_)
      refine ag_iincL (L' := fun v14 => [some (.ref (bs + posC 7 o0)), some (.ref (bs + posC 29 o0)), some (.int v1), some (.int v14), some (.ref (bs + posC 0 (17 * o0 + (v7).toNatClampNeg)))]) dX9_forgetAll_25 (by decide) rfl (by decide) (fun _ => rfl) (fun v14 => ?_)
      refine ag_goto (tgt := 10) dX9_forgetAll_28 (by decide) ?_
      refine ag_drop [4] (L' := [some (.ref (bs + posC 7 o0)), some (.ref (bs + posC 29 o0)), some (.int v1), some (.int v14), none]) rfl ?_
      exact ih10 v14 V13
set_option maxRecDepth 100000 in
set_option maxHeartbeats 4000000 in
theorem c_X9_end {l : Launch} {D : va_G} {cy : Nat → ClassId} {bs kb : Nat} {V : HV} (o0 : Nat) (ho0 : o0 < 6) {z : HV} (hz : f_X9_end kb o0 V = some z) : CM l (aG 737 bs) D (tyL cy) (vwC cy bs kb) yX9_end cX9_end 1 none 3 70 tvV [.ref (bs + posC 7 o0)] V ((), z) := by
  refine cm_of vwC_D (by decide +kernel) (own := RX9) rfl (Nat.le_of_ble_eq_true rfl) (L := [some (.ref (bs + posC 7 o0))]) rfl hz (fun Γ => ?_)
  unfold f_X9_end
  refine ag_aload_n dX9_end_0 rfl ?_
  refine ag_bnd (fun p1 hp1 => ?_)
  refine ag_ivVe (c_X9_forgetAll o0 ho0 hp1) vwC_D (vwC_at (kpC_7 _ ho0)) rfl cs_X9_45 rfl rfl (Nat.le_of_ble_eq_true rfl) ⟨by decide, by decide⟩ ⟨Nat.zero_le _, Nat.zero_le _⟩ dX9_end_1 ?_
  refine ag_aload_n dX9_end_4 rfl ?_
  refine ag_iconst (v := 3) dX9_end_5 (by decide) ?_
  refine pC_X9_state ho0 fl_X9_52 dX9_end_6 ?_
  refine ag_ltV (fun V2 => ?_)
  exact ag_vrep dX9_end_9
set_option maxRecDepth 100000 in
set_option maxHeartbeats 4000000 in
theorem c_X8_isMarked {l : Launch} {D : va_G} {cy : Nat → ClassId} {bs kb : Nat} {V : HV} (o0 : Nat) (x1 : Int32) (x2 : Int32) (ho0 : o0 < 1) {z : Bool} (hz : f_X8_isMarked kb o0 x1 x2 V = some z) : CM l (aG 737 bs) D (tyL cy) (vwC cy bs kb) yX8_isMarked cX8_isMarked 4 (some .boolean) 0 0 tvZ [.ref (bs + posC 6 o0), .int x1, .int x2] V (z, V) := by
  refine cm_of vwC_D (by decide +kernel) (own := RX8) rfl (Nat.le_of_ble_eq_true rfl) (L := [some (.ref (bs + posC 6 o0)), some (.int x1), some (.int x2), none]) rfl hz (fun Γ => ?_)
  unfold f_X8_isMarked
  refine ag_iload_n dX8_isMarked_0 rfl ?_
  refine ag_bipush (v := 16) dX8_isMarked_1 (by decide) ?_
  refine ag_idiv dX8_isMarked_3 (by decide) ?_
  refine ag_ltI (fun v1 => ?_)
  refine ag_istore_n (L' := [some (.ref (bs + posC 6 o0)), some (.int x1), some (.int x2), some (.int v1)]) dX8_isMarked_4 (by decide) rfl ?_
  refine ag_iload_n dX8_isMarked_5 rfl ?_
  refine ag_if_lt (tgt := 33) dX8_isMarked_6 (by decide) (fun h2 => ?_) (fun h2 => ?_)
  · refine ag_iconst (v := 0) dX8_isMarked_33 (by decide) ?_
    exact ag_zrpp (x := false) dX8_isMarked_34
  · refine ag_iload_n dX8_isMarked_9 rfl ?_
    refine ag_aload_n dX8_isMarked_10 rfl ?_
    refine gC_X8_marks ho0 fl_X8_15 dX8_isMarked_11 ?_
    refine nC_24 (by decide) dX8_isMarked_14 ?_
    refine ag_icmp_ge (tgt := 33) dX8_isMarked_15 (by decide) (fun h3 => ?_) (fun h3 => ?_)
    · refine ag_iconst (v := 0) dX8_isMarked_33 (by decide) ?_
      exact ag_zrpp (x := false) dX8_isMarked_34
    · refine ag_aload_n dX8_isMarked_18 rfl ?_
      refine gC_X8_marks ho0 fl_X8_15 dX8_isMarked_19 ?_
      refine ag_iload_n dX8_isMarked_22 rfl ?_
      refine ag_chk (fun h4 => ?_)
      refine aC_24 (by decide) h4 dX8_isMarked_23 ?_
      refine ag_iload_n dX8_isMarked_24 rfl ?_
      refine ag_iand dX8_isMarked_25 ?_
      refine ag_if_eq (tgt := 33) dX8_isMarked_26 (by decide) (fun h5 => ?_) (fun h5 => ?_)
      · refine ag_iconst (v := 0) dX8_isMarked_33 (by decide) ?_
        exact ag_zrpp (x := false) dX8_isMarked_34
      · refine ag_iconst (v := 1) dX8_isMarked_29 (by decide) ?_
        refine ag_goto (tgt := 34) dX8_isMarked_30 (by decide) ?_
        exact ag_zrpp (x := true) dX8_isMarked_34
set_option maxRecDepth 100000 in
set_option maxHeartbeats 4000000 in
theorem c_X8_filter {l : Launch} {D : va_G} {cy : Nat → ClassId} {bs kb : Nat} {V : HV} (o0 : Nat) (o1 : Nat) (ho0 : o0 < 1) (ho1 : o1 < 583) {z : HV} (hz : f_X8_filter kb o0 o1 V = some z) : CM l (aG 737 bs) D (tyL cy) (vwC cy bs kb) yX8_filter cX8_filter 2 none 1 23 tvV [.ref (bs + posC 6 o0), .ref (bs + posC 0 o1)] V ((), z) := by
  refine cm_of vwC_D (by decide +kernel) (own := RX8) rfl (Nat.le_of_ble_eq_true rfl) (L := [some (.ref (bs + posC 6 o0)), some (.ref (bs + posC 0 o1))]) rfl hz (fun Γ => ?_)
  unfold f_X8_filter
  refine ag_aload_n dX8_filter_0 rfl ?_
  refine gC_X0_tagged ho1 fl_X8_69 dX8_filter_1 ?_
  refine ag_bif_eq (tgt := 33) dX8_filter_4 (by decide) (fun h1 => ?_) (fun h1 => ?_)
  · exact ag_vrep dX8_filter_33
  · refine ag_aload_n dX8_filter_7 rfl ?_
    refine ag_bipush (v := 32) dX8_filter_8 (by decide) ?_
    refine ag_ivZp (c_X0_has o1 32 ho1 rfl) vwC_D (vwC_at (kpC_0 _ ho1)) rfl cs_X8_73 rfl rfl (Nat.le_of_ble_eq_true rfl) ⟨by decide, by decide⟩ ⟨Nat.zero_le _, Nat.zero_le _⟩ dX8_filter_10 ?_
    refine ag_ltZ (fun v2 => ?_)
    refine ag_bif_ne (tgt := 33) dX8_filter_13 (by decide) (fun h3 => ?_) (fun h3 => ?_)
    · exact ag_vrep dX8_filter_33
    · refine ag_aload_n dX8_filter_16 rfl ?_
      refine ag_aload_n dX8_filter_17 rfl ?_
      refine gC_X0_base ho1 fl_X8_57 dX8_filter_18 ?_
      refine ag_iconst (v := 2) dX8_filter_21 (by decide) ?_
      refine ag_bnd (fun p4 hp4 => ?_)
      refine ag_ivZp (c_X8_isMarked o0 (V 1 o1 0) 2 ho0 hp4) vwC_D (vwC_at (kpC_6 _ ho0)) rfl cs_X8_36 rfl rfl (Nat.le_of_ble_eq_true rfl) ⟨by decide, by decide⟩ ⟨Nat.zero_le _, Nat.zero_le _⟩ dX8_filter_22 ?_
      refine ag_bif_eq (tgt := 33) dX8_filter_25 (by decide) (fun h5 => ?_) (fun h5 => ?_)
      · exact ag_vrep dX8_filter_33
      · refine ag_aload_n dX8_filter_28 rfl ?_
        refine ag_iconst (v := 0) dX8_filter_29 (by decide) ?_
        refine pC_X0_tagged (x := false) ho1 fl_X8_69 dX8_filter_30 ?_
        refine ag_ltV (fun V6 => ?_)
        exact ag_vrep dX8_filter_33
set_option maxRecDepth 100000 in
set_option maxHeartbeats 4000000 in
theorem c_X3_filterBy {l : Launch} {D : va_G} {cy : Nat → ClassId} {bs kb : Nat} {V : HV} (o0 : Nat) (o1 : Nat) (ho0 : o0 < 96) (ho1 : o1 < 1) {z : HV} (hz : f_X3_filterBy kb o0 o1 V = some z) : CM l (aG 737 bs) D (tyL cy) (vwC cy bs kb) yX3_filterBy cX3_filterBy 2 none 2 44 tvV [.ref (bs + posC 2 o0), .ref (bs + posC 6 o1)] V ((), z) := by
  refine cm_of vwC_D (by decide +kernel) (own := RX3) rfl (Nat.le_of_ble_eq_true rfl) (L := [some (.ref (bs + posC 2 o0)), some (.ref (bs + posC 6 o1))]) rfl hz (fun Γ => ?_)
  unfold f_X3_filterBy
  refine ag_aload_n dX3_filterBy_0 rfl ?_
  refine ag_aload_n dX3_filterBy_1 rfl ?_
  refine gC_X3_pcc ho0 fl_X3_10 dX3_filterBy_2 ?_
  refine ag_bnd (fun p1 hp1 => ?_)
  refine ag_ivVe (c_X8_filter o1 (102 + 5 * o0) ho1 (by omega) hp1) vwC_D (vwC_at (kpC_6 _ ho1)) rfl cs_X3_28 rfl rfl (Nat.le_of_ble_eq_true rfl) ⟨by decide, by decide⟩ ⟨Nat.zero_le _, Nat.zero_le _⟩ dX3_filterBy_5 ?_
  refine ag_aload_n dX3_filterBy_8 rfl ?_
  refine ag_aload_n dX3_filterBy_9 rfl ?_
  refine gC_X3_c2 ho0 fl_X3_16 dX3_filterBy_10 ?_
  refine ag_bnd (fun p2 hp2 => ?_)
  refine ag_ivVe (c_X8_filter o1 (103 + 5 * o0) ho1 (by omega) hp2) vwC_D (vwC_at (kpC_6 _ ho1)) rfl cs_X3_28 rfl rfl (Nat.le_of_ble_eq_true rfl) ⟨by decide, by decide⟩ ⟨Nat.zero_le _, Nat.zero_le _⟩ dX3_filterBy_13 ?_
  refine ag_aload_n dX3_filterBy_16 rfl ?_
  refine ag_aload_n dX3_filterBy_17 rfl ?_
  refine gC_X3_c3 ho0 fl_X3_19 dX3_filterBy_18 ?_
  refine ag_bnd (fun p3 hp3 => ?_)
  refine ag_ivVe (c_X8_filter o1 (104 + 5 * o0) ho1 (by omega) hp3) vwC_D (vwC_at (kpC_6 _ ho1)) rfl cs_X3_28 rfl rfl (Nat.le_of_ble_eq_true rfl) ⟨by decide, by decide⟩ ⟨Nat.zero_le _, Nat.zero_le _⟩ dX3_filterBy_21 ?_
  refine ag_aload_n dX3_filterBy_24 rfl ?_
  refine ag_aload_n dX3_filterBy_25 rfl ?_
  refine gC_X3_c8 ho0 fl_X3_22 dX3_filterBy_26 ?_
  refine ag_bnd (fun p4 hp4 => ?_)
  refine ag_ivVe (c_X8_filter o1 (105 + 5 * o0) ho1 (by omega) hp4) vwC_D (vwC_at (kpC_6 _ ho1)) rfl cs_X3_28 rfl rfl (Nat.le_of_ble_eq_true rfl) ⟨by decide, by decide⟩ ⟨Nat.zero_le _, Nat.zero_le _⟩ dX3_filterBy_29 ?_
  refine ag_aload_n dX3_filterBy_32 rfl ?_
  refine ag_aload_n dX3_filterBy_33 rfl ?_
  refine gC_X3_c9 ho0 fl_X3_25 dX3_filterBy_34 ?_
  refine ag_bnd (fun p5 hp5 => ?_)
  refine ag_ivVe (c_X8_filter o1 (106 + 5 * o0) ho1 (by omega) hp5) vwC_D (vwC_at (kpC_6 _ ho1)) rfl cs_X3_28 rfl rfl (Nat.le_of_ble_eq_true rfl) ⟨by decide, by decide⟩ ⟨Nat.zero_le _, Nat.zero_le _⟩ dX3_filterBy_37 ?_
  exact ag_vrep dX3_filterBy_40
set_option maxRecDepth 100000 in
set_option maxHeartbeats 4000000 in
theorem c_X9_forgetOthers {l : Launch} {D : va_G} {cy : Nat → ClassId} {bs kb : Nat} {V : HV} (o0 : Nat) (ho0 : o0 < 6) {z : HV} (hz : f_X9_forgetOthers kb o0 V = some z) : CM l (aG 737 bs) D (tyL cy) (vwC cy bs kb) yX9_forgetOthers cX9_forgetOthers 1 none 3 69 tvV [.ref (bs + posC 7 o0)] V ((), z) := by
  refine cm_of vwC_D (by decide +kernel) (own := RX9) rfl (Nat.le_of_ble_eq_true rfl) (L := [some (.ref (bs + posC 7 o0))]) rfl hz (fun Γ => ?_)
  unfold f_X9_forgetOthers
  refine ag_aload_n dX9_forgetOthers_0 rfl ?_
  refine ag_iconst (v := 0) dX9_forgetOthers_1 (by decide) ?_
  refine ag_iconst (v := 1) dX9_forgetOthers_2 (by decide) ?_
  refine ag_bnd (fun p1 hp1 => ?_)
  refine ag_ivVe (c_X9_forget o0 0 1 ho0 hp1) vwC_D (vwC_at (kpC_7 _ ho0)) rfl cs_X9_86 rfl rfl (Nat.le_of_ble_eq_true rfl) ⟨by decide, by decide⟩ ⟨Nat.zero_le _, Nat.zero_le _⟩ dX9_forgetOthers_3 ?_
  refine ag_aload_n dX9_forgetOthers_6 rfl ?_
  refine ag_iconst (v := 4) dX9_forgetOthers_7 (by decide) ?_
  refine ag_bipush (v := 7) dX9_forgetOthers_8 (by decide) ?_
  refine ag_bnd (fun p2 hp2 => ?_)
  refine ag_ivVe (c_X9_forget o0 4 7 ho0 hp2) vwC_D (vwC_at (kpC_7 _ ho0)) rfl cs_X9_86 rfl rfl (Nat.le_of_ble_eq_true rfl) ⟨by decide, by decide⟩ ⟨Nat.zero_le _, Nat.zero_le _⟩ dX9_forgetOthers_10 ?_
  refine ag_aload_n dX9_forgetOthers_13 rfl ?_
  refine ag_bipush (v := 12) dX9_forgetOthers_14 (by decide) ?_
  refine ag_bipush (v := 15) dX9_forgetOthers_16 (by decide) ?_
  refine ag_bnd (fun p3 hp3 => ?_)
  refine ag_ivVe (c_X9_forget o0 12 15 ho0 hp3) vwC_D (vwC_at (kpC_7 _ ho0)) rfl cs_X9_86 rfl rfl (Nat.le_of_ble_eq_true rfl) ⟨by decide, by decide⟩ ⟨Nat.zero_le _, Nat.zero_le _⟩ dX9_forgetOthers_18 ?_
  exact ag_vrep dX9_forgetOthers_21
set_option maxRecDepth 100000 in
set_option maxHeartbeats 4000000 in
theorem c_X9_giveBack {l : Launch} {D : va_G} {cy : Nat → ClassId} {bs kb : Nat} {V : HV} (o0 : Nat) (o1 : Nat) (ho0 : o0 < 6) (ho1 : o1 < 1) {z : HV} (hz : f_X9_giveBack kb o0 o1 V = some z) : CM l (aG 737 bs) D (tyL cy) (vwC cy bs kb) yX9_giveBack cX9_giveBack 3 none 4 90 tvV [.ref (bs + posC 7 o0), .ref (bs + posC 6 o1)] V ((), z) := by
  refine cm_of vwC_D (by decide +kernel) (own := RX9) rfl (Nat.le_of_ble_eq_true rfl) (L := [some (.ref (bs + posC 7 o0)), some (.ref (bs + posC 6 o1)), none]) rfl hz (fun Γ => ?_)
  unfold f_X9_giveBack
  refine ag_aload_n dX9_giveBack_0 rfl ?_
  refine gC_X9_frameCount ho0 fl_X9_79 dX9_giveBack_1 ?_
  refine ag_jn0 (j := 16) (L1 := [some (.ref (bs + posC 7 o0)), some (.ref (bs + posC 6 o1)), none]) (st1 := []) (ws1 := vwC cy bs kb V) (?_) (fun k1 hk2 => ?_)
  · refine ag_aload_n dX9_giveBack_16 rfl ?_
    refine ag_bnd (fun p3 hp3 => ?_)
    refine ag_ivVe (c_X9_end o0 ho0 hp3) vwC_D (vwC_at (kpC_7 _ ho0)) rfl cs_X9_156 rfl rfl (Nat.le_of_ble_eq_true rfl) ⟨by decide, by decide⟩ ⟨Nat.zero_le _, Nat.zero_le _⟩ dX9_giveBack_17 ?_
    exact ag_vrep dX9_giveBack_20
  · refine ag_if_le (tgt := 16) dX9_giveBack_4 (by decide) (fun h4 => ?_) (fun h4 => ?_)
    · exact hk2
    · refine ag_aload_n dX9_giveBack_7 rfl ?_
      refine gC_X9_frameCount ho0 fl_X9_79 dX9_giveBack_8 ?_
      refine ag_bipush (v := 16) dX9_giveBack_11 (by decide) ?_
      refine ag_icmp_le (tgt := 21) dX9_giveBack_13 (by decide) (fun h5 => ?_) (fun h5 => ?_)
      · refine ag_aload_n dX9_giveBack_21 rfl ?_
        refine ag_dup dX9_giveBack_22 rfl ?_
        refine gC_X9_frameCount ho0 fl_X9_79 dX9_giveBack_23 ?_
        refine ag_iconst (v := 1) dX9_giveBack_26 (by decide) ?_
        refine ag_isub dX9_giveBack_27 ?_
        refine pC_X9_frameCount ho0 fl_X9_79 dX9_giveBack_28 ?_
        refine ag_ltV (fun V6 => ?_)
        refine ag_aload_n dX9_giveBack_31 rfl ?_
        refine gC_X9_frames ho0 fl_X9_24 dX9_giveBack_32 ?_
        refine ag_aload_n dX9_giveBack_35 rfl ?_
        refine gC_X9_frameCount ho0 fl_X9_79 dX9_giveBack_36 ?_
        refine ag_chk (fun h7 => ?_)
        have qh7 := inb_lt h7
        refine aC_30 ho0 h7 dX9_giveBack_39 ?_
        refine ag_astore_n (L' := [some (.ref (bs + posC 7 o0)), some (.ref (bs + posC 6 o1)), some (.ref (bs + posC 2 (16 * o0 + (V6 704 o0 0).toNatClampNeg)))]) dX9_giveBack_40 (by decide) rfl ?_
        refine ag_aload_n dX9_giveBack_41 rfl ?_
        refine ag_aload_n dX9_giveBack_42 rfl ?_
        refine ag_bnd (fun p8 hp8 => ?_)
        refine ag_ivVe (c_X3_filterBy (16 * o0 + (V6 704 o0 0).toNatClampNeg) o1 (by omega) ho1 hp8) vwC_D (vwC_at (kpC_2 _ (by omega))) rfl cs_X9_159 rfl rfl (Nat.le_of_ble_eq_true rfl) ⟨by decide, by decide⟩ ⟨Nat.zero_le _, Nat.zero_le _⟩ dX9_giveBack_43 ?_
        refine ag_aload_n dX9_giveBack_46 rfl ?_
        refine gC_X9_pcc ho0 fl_X9_18 dX9_giveBack_47 ?_
        refine ag_aload_n dX9_giveBack_50 rfl ?_
        refine gC_X3_pcc (by omega) fl_X9_137 dX9_giveBack_51 ?_
        refine ag_ivVe (c_X0_copy (17 * o0 + 16) (102 + 5 * (16 * o0 + (V6 704 o0 0).toNatClampNeg)) (by omega) (by omega) rfl) vwC_D (vwC_at (kpC_0 _ (by omega))) rfl cs_X9_138 rfl rfl (Nat.le_of_ble_eq_true rfl) ⟨by decide, by decide⟩ ⟨Nat.zero_le _, Nat.zero_le _⟩ dX9_giveBack_54 ?_
        refine ag_ltV (fun V9 => ?_)
        refine ag_aload_n dX9_giveBack_57 rfl ?_
        refine ag_iconst (v := 2) dX9_giveBack_58 (by decide) ?_
        refine ag_ivRp (c_X9_reg o0 2 ho0 rfl) vwC_D (vwC_at (kpC_7 _ ho0)) rfl cs_X9_82 rfl rfl (Nat.le_of_ble_eq_true rfl) ⟨by decide, by decide⟩ ⟨Nat.zero_le _, Nat.zero_le _⟩ dX9_giveBack_59 ?_
        refine ag_aload_n dX9_giveBack_62 rfl ?_
        refine gC_X3_c2 (by omega) fl_X9_142 dX9_giveBack_63 ?_
        refine ag_ivVe (c_X0_copy (f_X9_reg o0 2) (103 + 5 * (16 * o0 + (V6 704 o0 0).toNatClampNeg)) (ok_X9_reg ho0) (by omega) rfl) vwC_D (vwC_at (kpC_0 _ (ok_X9_reg ho0))) rfl cs_X9_138 rfl rfl (Nat.le_of_ble_eq_true rfl) ⟨by decide, by decide⟩ ⟨Nat.zero_le _, Nat.zero_le _⟩ dX9_giveBack_66 ?_
        refine ag_ltV (fun V10 => ?_)
        refine ag_aload_n dX9_giveBack_69 rfl ?_
        refine ag_iconst (v := 3) dX9_giveBack_70 (by decide) ?_
        refine ag_ivRp (c_X9_reg o0 3 ho0 rfl) vwC_D (vwC_at (kpC_7 _ ho0)) rfl cs_X9_82 rfl rfl (Nat.le_of_ble_eq_true rfl) ⟨by decide, by decide⟩ ⟨Nat.zero_le _, Nat.zero_le _⟩ dX9_giveBack_71 ?_
        refine ag_aload_n dX9_giveBack_74 rfl ?_
        refine gC_X3_c3 (by omega) fl_X9_145 dX9_giveBack_75 ?_
        refine ag_ivVe (c_X0_copy (f_X9_reg o0 3) (104 + 5 * (16 * o0 + (V6 704 o0 0).toNatClampNeg)) (ok_X9_reg ho0) (by omega) rfl) vwC_D (vwC_at (kpC_0 _ (ok_X9_reg ho0))) rfl cs_X9_138 rfl rfl (Nat.le_of_ble_eq_true rfl) ⟨by decide, by decide⟩ ⟨Nat.zero_le _, Nat.zero_le _⟩ dX9_giveBack_78 ?_
        refine ag_ltV (fun V11 => ?_)
        refine ag_aload_n dX9_giveBack_81 rfl ?_
        refine ag_bipush (v := 8) dX9_giveBack_82 (by decide) ?_
        refine ag_ivRp (c_X9_reg o0 8 ho0 rfl) vwC_D (vwC_at (kpC_7 _ ho0)) rfl cs_X9_82 rfl rfl (Nat.le_of_ble_eq_true rfl) ⟨by decide, by decide⟩ ⟨Nat.zero_le _, Nat.zero_le _⟩ dX9_giveBack_84 ?_
        refine ag_aload_n dX9_giveBack_87 rfl ?_
        refine gC_X3_c8 (by omega) fl_X9_148 dX9_giveBack_88 ?_
        refine ag_ivVe (c_X0_copy (f_X9_reg o0 8) (105 + 5 * (16 * o0 + (V6 704 o0 0).toNatClampNeg)) (ok_X9_reg ho0) (by omega) rfl) vwC_D (vwC_at (kpC_0 _ (ok_X9_reg ho0))) rfl cs_X9_138 rfl rfl (Nat.le_of_ble_eq_true rfl) ⟨by decide, by decide⟩ ⟨Nat.zero_le _, Nat.zero_le _⟩ dX9_giveBack_91 ?_
        refine ag_ltV (fun V12 => ?_)
        refine ag_aload_n dX9_giveBack_94 rfl ?_
        refine ag_bipush (v := 9) dX9_giveBack_95 (by decide) ?_
        refine ag_ivRp (c_X9_reg o0 9 ho0 rfl) vwC_D (vwC_at (kpC_7 _ ho0)) rfl cs_X9_82 rfl rfl (Nat.le_of_ble_eq_true rfl) ⟨by decide, by decide⟩ ⟨Nat.zero_le _, Nat.zero_le _⟩ dX9_giveBack_97 ?_
        refine ag_aload_n dX9_giveBack_100 rfl ?_
        refine gC_X3_c9 (by omega) fl_X9_151 dX9_giveBack_101 ?_
        refine ag_ivVe (c_X0_copy (f_X9_reg o0 9) (106 + 5 * (16 * o0 + (V6 704 o0 0).toNatClampNeg)) (ok_X9_reg ho0) (by omega) rfl) vwC_D (vwC_at (kpC_0 _ (ok_X9_reg ho0))) rfl cs_X9_138 rfl rfl (Nat.le_of_ble_eq_true rfl) ⟨by decide, by decide⟩ ⟨Nat.zero_le _, Nat.zero_le _⟩ dX9_giveBack_104 ?_
        refine ag_ltV (fun V13 => ?_)
        refine ag_aload_n dX9_giveBack_107 rfl ?_
        refine ag_aload_n dX9_giveBack_108 rfl ?_
        refine gC_X3_interrupts (by omega) fl_X9_154 dX9_giveBack_109 ?_
        refine pC_X9_interrupts (x := (i2b (V13 205 (16 * o0 + (V6 704 o0 0).toNatClampNeg) 0))) ho0 fl_X9_48 dX9_giveBack_112 ?_
        refine ag_ltV (fun V14 => ?_)
        refine ag_aload_n dX9_giveBack_115 rfl ?_
        refine ag_aload_n dX9_giveBack_116 rfl ?_
        refine gC_X3_compartment (by omega) fl_X9_155 dX9_giveBack_117 ?_
        refine pC_X9_compartment ho0 fl_X9_90 dX9_giveBack_120 ?_
        refine ag_ltV (fun V15 => ?_)
        refine ag_aload_n dX9_giveBack_123 rfl ?_
        refine ag_aload_n dX9_giveBack_124 rfl ?_
        refine gC_X3_c2 (by omega) fl_X9_142 dX9_giveBack_125 ?_
        refine gC_X0_top (by omega) fl_X9_123 dX9_giveBack_128 ?_
        refine pC_X9_stackTop ho0 fl_X9_113 dX9_giveBack_131 ?_
        refine ag_ltV (fun V16 => ?_)
        refine ag_aload_n dX9_giveBack_134 rfl ?_
        refine ag_bnd (fun p17 hp17 => ?_)
        refine ag_ivVe (c_X9_forgetOthers o0 ho0 hp17) vwC_D (vwC_at (kpC_7 _ ho0)) rfl cs_X9_163 rfl rfl (Nat.le_of_ble_eq_true rfl) ⟨by decide, by decide⟩ ⟨Nat.zero_le _, Nat.zero_le _⟩ dX9_giveBack_135 ?_
        refine ag_aload_n dX9_giveBack_138 rfl ?_
        refine ag_aload_n dX9_giveBack_139 rfl ?_
        refine gC_X9_stackBase ho0 fl_X9_107 dX9_giveBack_140 ?_
        refine ag_aload_n dX9_giveBack_143 rfl ?_
        refine gC_X3_c2 (by omega) fl_X9_142 dX9_giveBack_144 ?_
        refine gC_X0_cursor (by omega) fl_X9_126 dX9_giveBack_147 ?_
        refine ag_bnd (fun p18 hp18 => ?_)
        refine ag_ivVe (c_X8_erase o1 (p17 707 o0 0) (p17 0 (103 + 5 * (16 * o0 + (V6 704 o0 0).toNatClampNeg)) 0) ho1 hp18) vwC_D (vwC_at (kpC_6 _ ho1)) rfl cs_X9_166 rfl rfl (Nat.le_of_ble_eq_true rfl) ⟨by decide, by decide⟩ ⟨Nat.zero_le _, Nat.zero_le _⟩ dX9_giveBack_150 ?_
        exact ag_vrep dX9_giveBack_153
      · exact hk2
set_option maxRecDepth 100000 in
set_option maxHeartbeats 4000000 in
theorem c_X4_bytes {l : Launch} {D : va_G} {cy : Nat → ClassId} {bs kb : Nat} {V : HV} (o0 : Nat) (ho0 : o0 < 1) {z : Int32} (hz : f_X4_bytes kb o0 V = z) : CM l (aG 737 bs) D (tyL cy) (vwC cy bs kb) yX4_bytes cX4_bytes 1 (some .int) 0 0 tvI [.ref (bs + posC 3 o0)] V (z, V) := by
  refine cm_of vwC_D (by decide +kernel) (own := RX4) rfl (Nat.le_of_ble_eq_true rfl) (L := [some (.ref (bs + posC 3 o0))]) rfl hz (fun Γ => ?_)
  unfold f_X4_bytes
  refine ag_aload_n dX4_bytes_0 rfl ?_
  refine gC_X4_sizes ho0 fl_X4_15 dX4_bytes_1 ?_
  refine nC_25 (by decide) dX4_bytes_4 ?_
  refine ag_aload_n dX4_bytes_5 rfl ?_
  refine gC_X4_first ho0 fl_X4_34 dX4_bytes_6 ?_
  refine ag_isub dX4_bytes_9 ?_
  refine ag_bipush (v := 16) dX4_bytes_10 (by decide) ?_
  refine ag_imul dX4_bytes_12 ?_
  exact ag_irp dX4_bytes_13
