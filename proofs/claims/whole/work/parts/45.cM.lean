set_option maxRecDepth 100000 in
set_option maxHeartbeats 4000000 in
theorem c_X12_call {l : Launch} {D : va_G} {cy : Nat → ClassId} {bs : Nat} {V : HV} (o0 : Nat) (x1 : Int32) (ho0 : o0 < 1) {z : HV} (hz : f_X12_call o0 x1 V = some z) : CM l (aG 57 bs) D (tyL cy) (vwM cy bs) yX12_call cX12_call 7 none 3 61 tvV [.ref (bs + posM 10 o0), .int x1] V ((), z) := by
  refine cm_of vwM_D (by decide +kernel) (own := RX12) rfl (Nat.le_of_ble_eq_true rfl) (L := [some (.ref (bs + posM 10 o0)), some (.int x1), none, none, none, none, none]) rfl hz (fun Γ => ?_)
  unfold f_X12_call
  refine ag_aload_n dX12_call_0 rfl ?_
  refine ag_bnd (fun p1 hp1 => ?_)
  refine ag_ivVe (c_X12_goesOn o0 ho0 hp1) vwM_D (vwM_at (kpM_10 _ ho0)) rfl cs_X12_369 rfl rfl (Nat.le_of_ble_eq_true rfl) ⟨by decide, by decide⟩ ⟨Nat.zero_le _, Nat.zero_le _⟩ dX12_call_1 ?_
  refine ag_aload_n dX12_call_4 rfl ?_
  refine gM_X12_depth ho0 fl_X12_70 dX12_call_5 ?_
  refine ag_aload_n dX12_call_8 rfl ?_
  refine gM_X12_t0 ho0 fl_X12_330 dX12_call_9 ?_
  refine ag_chk (fun h2 => ?_)
  refine aM_50 (by decide) h2 dX12_call_12 ?_
  refine ag_aload_n dX12_call_13 rfl ?_
  refine gM_X12_most ho0 fl_X12_73 dX12_call_14 ?_
  refine ag_aload_n dX12_call_17 rfl ?_
  refine gM_X12_t0 ho0 fl_X12_330 dX12_call_18 ?_
  refine ag_chk (fun h3 => ?_)
  refine aM_51 (by decide) h3 dX12_call_21 ?_
  refine ag_icmp_ne (tgt := 55) dX12_call_22 (by decide) (fun h4 => ?_) (fun h4 => ?_)
  · refine ag_aload_n dX12_call_55 rfl ?_
    refine ag_dup dX12_call_56 rfl ?_
    refine gM_X12_calls ho0 fl_X12_210 dX12_call_57 ?_
    refine ag_iconst (v := 1) dX12_call_60 (by decide) ?_
    refine ag_iadd dX12_call_61 ?_
    refine pM_X12_calls ho0 fl_X12_210 dX12_call_62 ?_
    refine ag_ltV (fun V5 => ?_)
    refine ag_aload_n dX12_call_65 rfl ?_
    refine gM_X12_depth ho0 fl_X12_70 dX12_call_66 ?_
    refine ag_aload_n dX12_call_69 rfl ?_
    refine gM_X12_t0 ho0 fl_X12_330 dX12_call_70 ?_
    refine ag_chk (fun h6 => ?_)
    refine aM_50 (by decide) h6 dX12_call_73 ?_
    refine ag_ltI (fun v7 => ?_)
    refine ag_istore_n (L' := [some (.ref (bs + posM 10 o0)), some (.int x1), some (.int v7), none, none, none, none]) dX12_call_74 (by decide) rfl ?_
    refine ag_aload_n dX12_call_75 rfl ?_
    refine ag_aload_n dX12_call_76 rfl ?_
    refine ag_ivIp (c_X12_pcc o0 ho0 rfl) vwM_D (vwM_at (kpM_10 _ ho0)) rfl cs_X12_339 rfl rfl (Nat.le_of_ble_eq_true rfl) ⟨by decide, by decide⟩ ⟨Nat.zero_le _, Nat.zero_le _⟩ dX12_call_77 ?_
    refine ag_ltI (fun v8 => ?_)
    refine ag_aload_n dX12_call_80 rfl ?_
    refine gM_X12_t0 ho0 fl_X12_330 dX12_call_81 ?_
    refine ag_iload_n dX12_call_84 rfl ?_
    refine ag_iconst (v := 0) dX12_call_85 (by decide) ?_
    refine ag_isIp (c_X12_frame (V5 1080 o0 0) v7 0  rfl) vwM_D cs_X12_456 rfl rfl (Nat.le_of_ble_eq_true rfl) ⟨by decide, by decide⟩ ⟨Nat.zero_le _, Nat.zero_le _⟩ dX12_call_86 ?_
    refine ag_ltI (fun v9 => ?_)
    refine ag_bnd (fun p10 hp10 => ?_)
    refine ag_ivVe (c_X12_copy o0 v8 v9 ho0 hp10) vwM_D (vwM_at (kpM_10 _ ho0)) rfl cs_X12_336 rfl rfl (Nat.le_of_ble_eq_true rfl) ⟨by decide, by decide⟩ ⟨Nat.zero_le _, Nat.zero_le _⟩ dX12_call_89 ?_
    refine ag_aload_n dX12_call_92 rfl ?_
    refine ag_aload_n dX12_call_93 rfl ?_
    refine gM_X12_t0 ho0 fl_X12_330 dX12_call_94 ?_
    refine ag_iconst (v := 2) dX12_call_97 (by decide) ?_
    refine ag_isIp (c_X12_reg (p10 1080 o0 0) 2  rfl) vwM_D cs_X12_307 rfl rfl (Nat.le_of_ble_eq_true rfl) ⟨by decide, by decide⟩ ⟨Nat.zero_le _, Nat.zero_le _⟩ dX12_call_98 ?_
    refine ag_ltI (fun v11 => ?_)
    refine ag_aload_n dX12_call_101 rfl ?_
    refine gM_X12_t0 ho0 fl_X12_330 dX12_call_102 ?_
    refine ag_iload_n dX12_call_105 rfl ?_
    refine ag_iconst (v := 1) dX12_call_106 (by decide) ?_
    refine ag_isIp (c_X12_frame (p10 1080 o0 0) v7 1  rfl) vwM_D cs_X12_456 rfl rfl (Nat.le_of_ble_eq_true rfl) ⟨by decide, by decide⟩ ⟨Nat.zero_le _, Nat.zero_le _⟩ dX12_call_107 ?_
    refine ag_ltI (fun v12 => ?_)
    refine ag_bnd (fun p13 hp13 => ?_)
    refine ag_ivVe (c_X12_copy o0 v11 v12 ho0 hp13) vwM_D (vwM_at (kpM_10 _ ho0)) rfl cs_X12_336 rfl rfl (Nat.le_of_ble_eq_true rfl) ⟨by decide, by decide⟩ ⟨Nat.zero_le _, Nat.zero_le _⟩ dX12_call_110 ?_
    refine ag_aload_n dX12_call_113 rfl ?_
    refine ag_aload_n dX12_call_114 rfl ?_
    refine gM_X12_t0 ho0 fl_X12_330 dX12_call_115 ?_
    refine ag_iconst (v := 3) dX12_call_118 (by decide) ?_
    refine ag_isIp (c_X12_reg (p13 1080 o0 0) 3  rfl) vwM_D cs_X12_307 rfl rfl (Nat.le_of_ble_eq_true rfl) ⟨by decide, by decide⟩ ⟨Nat.zero_le _, Nat.zero_le _⟩ dX12_call_119 ?_
    refine ag_ltI (fun v14 => ?_)
    refine ag_aload_n dX12_call_122 rfl ?_
    refine gM_X12_t0 ho0 fl_X12_330 dX12_call_123 ?_
    refine ag_iload_n dX12_call_126 rfl ?_
    refine ag_iconst (v := 2) dX12_call_127 (by decide) ?_
    refine ag_isIp (c_X12_frame (p13 1080 o0 0) v7 2  rfl) vwM_D cs_X12_456 rfl rfl (Nat.le_of_ble_eq_true rfl) ⟨by decide, by decide⟩ ⟨Nat.zero_le _, Nat.zero_le _⟩ dX12_call_128 ?_
    refine ag_ltI (fun v15 => ?_)
    refine ag_bnd (fun p16 hp16 => ?_)
    refine ag_ivVe (c_X12_copy o0 v14 v15 ho0 hp16) vwM_D (vwM_at (kpM_10 _ ho0)) rfl cs_X12_336 rfl rfl (Nat.le_of_ble_eq_true rfl) ⟨by decide, by decide⟩ ⟨Nat.zero_le _, Nat.zero_le _⟩ dX12_call_131 ?_
    refine ag_aload_n dX12_call_134 rfl ?_
    refine ag_aload_n dX12_call_135 rfl ?_
    refine gM_X12_t0 ho0 fl_X12_330 dX12_call_136 ?_
    refine ag_bipush (v := 8) dX12_call_139 (by decide) ?_
    refine ag_isIp (c_X12_reg (p16 1080 o0 0) 8  rfl) vwM_D cs_X12_307 rfl rfl (Nat.le_of_ble_eq_true rfl) ⟨by decide, by decide⟩ ⟨Nat.zero_le _, Nat.zero_le _⟩ dX12_call_141 ?_
    refine ag_ltI (fun v17 => ?_)
    refine ag_aload_n dX12_call_144 rfl ?_
    refine gM_X12_t0 ho0 fl_X12_330 dX12_call_145 ?_
    refine ag_iload_n dX12_call_148 rfl ?_
    refine ag_iconst (v := 3) dX12_call_149 (by decide) ?_
    refine ag_isIp (c_X12_frame (p16 1080 o0 0) v7 3  rfl) vwM_D cs_X12_456 rfl rfl (Nat.le_of_ble_eq_true rfl) ⟨by decide, by decide⟩ ⟨Nat.zero_le _, Nat.zero_le _⟩ dX12_call_150 ?_
    refine ag_ltI (fun v18 => ?_)
    refine ag_bnd (fun p19 hp19 => ?_)
    refine ag_ivVe (c_X12_copy o0 v17 v18 ho0 hp19) vwM_D (vwM_at (kpM_10 _ ho0)) rfl cs_X12_336 rfl rfl (Nat.le_of_ble_eq_true rfl) ⟨by decide, by decide⟩ ⟨Nat.zero_le _, Nat.zero_le _⟩ dX12_call_153 ?_
    refine ag_aload_n dX12_call_156 rfl ?_
    refine ag_aload_n dX12_call_157 rfl ?_
    refine gM_X12_t0 ho0 fl_X12_330 dX12_call_158 ?_
    refine ag_bipush (v := 9) dX12_call_161 (by decide) ?_
    refine ag_isIp (c_X12_reg (p19 1080 o0 0) 9  rfl) vwM_D cs_X12_307 rfl rfl (Nat.le_of_ble_eq_true rfl) ⟨by decide, by decide⟩ ⟨Nat.zero_le _, Nat.zero_le _⟩ dX12_call_163 ?_
    refine ag_ltI (fun v20 => ?_)
    refine ag_aload_n dX12_call_166 rfl ?_
    refine gM_X12_t0 ho0 fl_X12_330 dX12_call_167 ?_
    refine ag_iload_n dX12_call_170 rfl ?_
    refine ag_iconst (v := 4) dX12_call_171 (by decide) ?_
    refine ag_isIp (c_X12_frame (p19 1080 o0 0) v7 4  rfl) vwM_D cs_X12_456 rfl rfl (Nat.le_of_ble_eq_true rfl) ⟨by decide, by decide⟩ ⟨Nat.zero_le _, Nat.zero_le _⟩ dX12_call_172 ?_
    refine ag_ltI (fun v21 => ?_)
    refine ag_bnd (fun p22 hp22 => ?_)
    refine ag_ivVe (c_X12_copy o0 v20 v21 ho0 hp22) vwM_D (vwM_at (kpM_10 _ ho0)) rfl cs_X12_336 rfl rfl (Nat.le_of_ble_eq_true rfl) ⟨by decide, by decide⟩ ⟨Nat.zero_le _, Nat.zero_le _⟩ dX12_call_175 ?_
    refine ag_aload_n dX12_call_178 rfl ?_
    refine gM_X12_frameHome ho0 fl_X12_112 dX12_call_179 ?_
    refine ag_bipush (v := 16) dX12_call_182 (by decide) ?_
    refine ag_aload_n dX12_call_184 rfl ?_
    refine gM_X12_t0 ho0 fl_X12_330 dX12_call_185 ?_
    refine ag_imul dX12_call_188 ?_
    refine ag_iload_n dX12_call_189 rfl ?_
    refine ag_iadd dX12_call_190 ?_
    refine ag_aload_n dX12_call_191 rfl ?_
    refine gM_X12_home ho0 fl_X12_67 dX12_call_192 ?_
    refine ag_aload_n dX12_call_195 rfl ?_
    refine gM_X12_t0 ho0 fl_X12_330 dX12_call_196 ?_
    refine ag_chk (fun h23 => ?_)
    refine aM_49 (by decide) h23 dX12_call_199 ?_
    refine ag_chk (fun h24 => ?_)
    refine sM_64 (by decide) h24 dX12_call_200 ?_
    refine ag_ltV (fun V25 => ?_)
    refine ag_aload_n dX12_call_201 rfl ?_
    refine gM_X12_frameOn ho0 fl_X12_115 dX12_call_202 ?_
    refine ag_bipush (v := 16) dX12_call_205 (by decide) ?_
    refine ag_aload_n dX12_call_207 rfl ?_
    refine gM_X12_t0 ho0 fl_X12_330 dX12_call_208 ?_
    refine ag_imul dX12_call_211 ?_
    refine ag_iload_n dX12_call_212 rfl ?_
    refine ag_iadd dX12_call_213 ?_
    refine ag_aload_n dX12_call_214 rfl ?_
    refine gM_X12_on ho0 fl_X12_76 dX12_call_215 ?_
    refine ag_aload_n dX12_call_218 rfl ?_
    refine gM_X12_t0 ho0 fl_X12_330 dX12_call_219 ?_
    refine ag_chk (fun h26 => ?_)
    refine aM_52 (by decide) h26 dX12_call_222 ?_
    refine ag_chk (fun h27 => ?_)
    refine sM_65 (x := (i2b (V25 5200 0 (V25 1080 o0 0).toNatClampNeg))) (by decide) h27 dX12_call_223 ?_
    refine ag_ltV (fun V28 => ?_)
    refine ag_aload_n dX12_call_224 rfl ?_
    refine gM_X12_frameGiven ho0 fl_X12_118 dX12_call_225 ?_
    refine ag_bipush (v := 16) dX12_call_228 (by decide) ?_
    refine ag_aload_n dX12_call_230 rfl ?_
    refine gM_X12_t0 ho0 fl_X12_330 dX12_call_231 ?_
    refine ag_imul dX12_call_234 ?_
    refine ag_iload_n dX12_call_235 rfl ?_
    refine ag_iadd dX12_call_236 ?_
    refine ag_aload_n dX12_call_237 rfl ?_
    refine gM_X12_given ho0 fl_X12_94 dX12_call_238 ?_
    refine ag_aload_n dX12_call_241 rfl ?_
    refine gM_X12_t0 ho0 fl_X12_330 dX12_call_242 ?_
    refine ag_chk (fun h29 => ?_)
    refine aM_58 (by decide) h29 dX12_call_245 ?_
    refine ag_chk (fun h30 => ?_)
    refine sM_66 (by decide) h30 dX12_call_246 ?_
    refine ag_ltV (fun V31 => ?_)
    refine ag_aload_n dX12_call_247 rfl ?_
    refine gM_X12_depth ho0 fl_X12_70 dX12_call_248 ?_
    refine ag_aload_n dX12_call_251 rfl ?_
    refine gM_X12_t0 ho0 fl_X12_330 dX12_call_252 ?_
    refine ag_dup2 dX12_call_255 rfl rfl ?_
    refine ag_chk (fun h32 => ?_)
    refine aM_50 (by decide) h32 dX12_call_256 ?_
    refine ag_iconst (v := 1) dX12_call_257 (by decide) ?_
    refine ag_iadd dX12_call_258 ?_
    refine ag_chk (fun h33 => ?_)
    refine sM_50 (by decide) h33 dX12_call_259 ?_
    refine ag_ltV (fun V34 => ?_)
    refine ag_aload_n dX12_call_260 rfl ?_
    refine gM_X12_cursor ho0 fl_X12_7 dX12_call_261 ?_
    refine ag_aload_n dX12_call_264 rfl ?_
    refine gM_X12_t0 ho0 fl_X12_330 dX12_call_265 ?_
    refine ag_iconst (v := 2) dX12_call_268 (by decide) ?_
    refine ag_isIp (c_X12_reg (V34 1080 o0 0) 2  rfl) vwM_D cs_X12_307 rfl rfl (Nat.le_of_ble_eq_true rfl) ⟨by decide, by decide⟩ ⟨Nat.zero_le _, Nat.zero_le _⟩ dX12_call_269 ?_
    refine ag_ltI (fun v35 => ?_)
    refine ag_chk (fun h36 => ?_)
    refine aM_24 (by decide) h36 dX12_call_272 ?_
    refine ag_ltI (fun v37 => ?_)
    refine ag_istore_n (L' := [some (.ref (bs + posM 10 o0)), some (.int x1), some (.int v7), some (.int v37), none, none, none]) dX12_call_273 (by decide) rfl ?_
    refine ag_aload_n dX12_call_274 rfl ?_
    refine ag_aload_n dX12_call_275 rfl ?_
    refine gM_X12_stackAt ho0 fl_X12_88 dX12_call_276 ?_
    refine ag_aload_n dX12_call_279 rfl ?_
    refine gM_X12_t0 ho0 fl_X12_330 dX12_call_280 ?_
    refine ag_chk (fun h38 => ?_)
    refine aM_56 (by decide) h38 dX12_call_283 ?_
    refine ag_iload_n dX12_call_284 rfl ?_
    refine ag_bnd (fun p39 hp39 => ?_)
    refine ag_ivVe (c_X12_wipe o0 (V34 5600 0 (V34 1080 o0 0).toNatClampNeg) v37 ho0 hp39) vwM_D (vwM_at (kpM_10 _ ho0)) rfl cs_X12_459 rfl rfl (Nat.le_of_ble_eq_true rfl) ⟨by decide, by decide⟩ ⟨Nat.zero_le _, Nat.zero_le _⟩ dX12_call_285 ?_
    refine ag_iload_n dX12_call_288 rfl ?_
    refine ag_bipush (v := 16) dX12_call_289 (by decide) ?_
    refine ag_idiv dX12_call_291 (by decide) ?_
    refine ag_ltI (fun v40 => ?_)
    refine ag_istore (L' := [some (.ref (bs + posM 10 o0)), some (.int x1), some (.int v7), some (.int v37), some (.int v40), none, none]) dX12_call_292 (by decide) rfl ?_
    refine ag_bipush (v := 8) dX12_call_294 (by decide) ?_
    refine ag_iload dX12_call_296 rfl ?_
    refine ag_imul dX12_call_298 ?_
    refine ag_iload_n dX12_call_299 rfl ?_
    refine ag_bipush (v := 16) dX12_call_300 (by decide) ?_
    refine ag_irem dX12_call_302 (by decide) ?_
    refine ag_iadd dX12_call_303 ?_
    refine ag_ltI (fun v41 => ?_)
    refine ag_istore (L' := [some (.ref (bs + posM 10 o0)), some (.int x1), some (.int v7), some (.int v37), some (.int v40), some (.int v41), none]) dX12_call_304 (by decide) rfl ?_
    refine ag_iconst (v := 0) dX12_call_306 (by decide) ?_
    refine ag_istore (L' := [some (.ref (bs + posM 10 o0)), some (.int x1), some (.int v7), some (.int v37), some (.int v40), some (.int v41), some (.int 0)]) dX12_call_307 (by decide) rfl ?_
    refine ag_jn1 (j := 335) (L1 := fun V44 => [some (.ref (bs + posM 10 o0)), some (.int x1), some (.int v7), some (.int v37), some (.int v40), some (.int v41), none]) (st1 := fun V44 => []) (ws1 := fun V44 => vwM cy bs V44) (fun V44 => ?_) (fun k42 hk43 => ?_)
    · refine ag_aload_n dX12_call_335 rfl ?_
      refine ag_iload dX12_call_336 rfl ?_
      refine ag_aload_n dX12_call_338 rfl ?_
      refine gM_X12_exportWord ho0 fl_X12_55 dX12_call_339 ?_
      refine ag_iload dX12_call_342 rfl ?_
      refine ag_chk (fun h45 => ?_)
      refine aM_45 (by decide) h45 dX12_call_344 ?_
      refine ag_aload_n dX12_call_345 rfl ?_
      refine ag_ivIp (c_X12_pcc o0 ho0 rfl) vwM_D (vwM_at (kpM_10 _ ho0)) rfl cs_X12_339 rfl rfl (Nat.le_of_ble_eq_true rfl) ⟨by decide, by decide⟩ ⟨Nat.zero_le _, Nat.zero_le _⟩ dX12_call_346 ?_
      refine ag_ltI (fun v46 => ?_)
      refine ag_bnd (fun p47 hp47 => ?_)
      refine ag_ivVe (c_X12_code o0 v40 (V44 4500 0 (v41).toNatClampNeg) v46 ho0 hp47) vwM_D (vwM_at (kpM_10 _ ho0)) rfl cs_X12_310 rfl rfl (Nat.le_of_ble_eq_true rfl) ⟨by decide, by decide⟩ ⟨Nat.zero_le _, Nat.zero_le _⟩ dX12_call_349 ?_
      refine ag_aload_n dX12_call_352 rfl ?_
      refine gM_X12_on ho0 fl_X12_76 dX12_call_353 ?_
      refine ag_aload_n dX12_call_356 rfl ?_
      refine gM_X12_t0 ho0 fl_X12_330 dX12_call_357 ?_
      refine ag_aload_n dX12_call_360 rfl ?_
      refine gM_X12_exportKind ho0 fl_X12_58 dX12_call_361 ?_
      refine ag_iload dX12_call_364 rfl ?_
      refine ag_chk (fun h48 => ?_)
      refine aM_46 (by decide) h48 dX12_call_366 ?_
      refine ag_iconst (v := 1) dX12_call_367 (by decide) ?_
      refine ag_jn1 (j := 399) (L1 := fun v49 => [some (.ref (bs + posM 10 o0)), some (.int x1), some (.int v7), some (.int v37), some (.int v40), some (.int v41), none]) (st1 := fun v49 => [.int (b2i v49), .int (p47 1080 o0 0), .ref (bs + posM 52 0)]) (ws1 := fun v49 => vwM cy bs p47) (fun v49 => ?_) (fun k50 hk51 => ?_)
      · refine ag_chk (fun h52 => ?_)
        refine sM_52 (x := v49) (by decide) h52 dX12_call_399 ?_
        refine ag_ltV (fun V53 => ?_)
        refine ag_aload_n dX12_call_400 rfl ?_
        refine gM_X12_home ho0 fl_X12_67 dX12_call_401 ?_
        refine ag_aload_n dX12_call_404 rfl ?_
        refine gM_X12_t0 ho0 fl_X12_330 dX12_call_405 ?_
        refine ag_iload dX12_call_408 rfl ?_
        refine ag_chk (fun h54 => ?_)
        refine sM_49 (by decide) h54 dX12_call_410 ?_
        refine ag_ltV (fun V55 => ?_)
        refine ag_aload_n dX12_call_411 rfl ?_
        refine gM_X12_given ho0 fl_X12_94 dX12_call_412 ?_
        refine ag_aload_n dX12_call_415 rfl ?_
        refine gM_X12_t0 ho0 fl_X12_330 dX12_call_416 ?_
        refine ag_iload_n dX12_call_419 rfl ?_
        refine ag_chk (fun h56 => ?_)
        refine sM_58 (by decide) h56 dX12_call_420 ?_
        refine ag_ltV (fun V57 => ?_)
        refine ag_aload_n dX12_call_421 rfl ?_
        refine ag_aload_n dX12_call_422 rfl ?_
        refine gM_X12_t0 ho0 fl_X12_330 dX12_call_423 ?_
        refine ag_iconst (v := 1) dX12_call_426 (by decide) ?_
        refine ag_isIp (c_X12_reg (V57 1080 o0 0) 1  rfl) vwM_D cs_X12_307 rfl rfl (Nat.le_of_ble_eq_true rfl) ⟨by decide, by decide⟩ ⟨Nat.zero_le _, Nat.zero_le _⟩ dX12_call_427 ?_
        refine ag_ltI (fun v58 => ?_)
        refine ag_iconst (v := 0) dX12_call_430 (by decide) ?_
        refine ag_iconst (v := 0) dX12_call_431 (by decide) ?_
        refine ag_iconst (v := 0) dX12_call_432 (by decide) ?_
        refine ag_iconst (v := 0) dX12_call_433 (by decide) ?_
        refine ag_iconst (v := 5) dX12_call_434 (by decide) ?_
        refine ag_iconst (v := 1) dX12_call_435 (by decide) ?_
        refine ag_bnd (fun p59 hp59 => ?_)
        refine ag_ivVe (c_X12_make o0 v58 0 0 0 0 5 true ho0 hp59) vwM_D (vwM_at (kpM_10 _ ho0)) rfl cs_X12_250 rfl rfl (Nat.le_of_ble_eq_true rfl) ⟨by decide, by decide⟩ ⟨Nat.zero_le _, Nat.zero_le _⟩ dX12_call_436 ?_
        refine ag_aload_n dX12_call_439 rfl ?_
        refine ag_aload_n dX12_call_440 rfl ?_
        refine gM_X12_t0 ho0 fl_X12_330 dX12_call_441 ?_
        refine ag_iload_n dX12_call_444 rfl ?_
        refine ag_aload_n dX12_call_445 rfl ?_
        refine gM_X12_t0 ho0 fl_X12_330 dX12_call_446 ?_
        refine ag_iconst (v := 2) dX12_call_449 (by decide) ?_
        refine ag_isIp (c_X12_reg (p59 1080 o0 0) 2  rfl) vwM_D cs_X12_307 rfl rfl (Nat.le_of_ble_eq_true rfl) ⟨by decide, by decide⟩ ⟨Nat.zero_le _, Nat.zero_le _⟩ dX12_call_450 ?_
        refine ag_ltI (fun v60 => ?_)
        refine ag_bnd (fun p61 hp61 => ?_)
        refine ag_ivVe (c_X12_stack o0 (p59 1080 o0 0) v37 v60 ho0 hp61) vwM_D (vwM_at (kpM_10 _ ho0)) rfl cs_X12_313 rfl rfl (Nat.le_of_ble_eq_true rfl) ⟨by decide, by decide⟩ ⟨Nat.zero_le _, Nat.zero_le _⟩ dX12_call_453 ?_
        refine ag_aload_n dX12_call_456 rfl ?_
        refine ag_iload dX12_call_457 rfl ?_
        refine ag_aload_n dX12_call_459 rfl ?_
        refine gM_X12_t0 ho0 fl_X12_330 dX12_call_460 ?_
        refine ag_iconst (v := 3) dX12_call_463 (by decide) ?_
        refine ag_isIp (c_X12_reg (p61 1080 o0 0) 3  rfl) vwM_D cs_X12_307 rfl rfl (Nat.le_of_ble_eq_true rfl) ⟨by decide, by decide⟩ ⟨Nat.zero_le _, Nat.zero_le _⟩ dX12_call_464 ?_
        refine ag_ltI (fun v62 => ?_)
        refine ag_bnd (fun p63 hp63 => ?_)
        refine ag_ivVe (c_X12_globals o0 v40 v62 ho0 hp63) vwM_D (vwM_at (kpM_10 _ ho0)) rfl cs_X12_316 rfl rfl (Nat.le_of_ble_eq_true rfl) ⟨by decide, by decide⟩ ⟨Nat.zero_le _, Nat.zero_le _⟩ dX12_call_467 ?_
        exact ag_vrep dX12_call_470
      · refine ag_icmp_ne (tgt := 383) dX12_call_368 (by decide) (fun h64 => ?_) (fun h64 => ?_)
        · refine ag_aload_n dX12_call_383 rfl ?_
          refine gM_X12_exportKind ho0 fl_X12_58 dX12_call_384 ?_
          refine ag_iload dX12_call_387 rfl ?_
          refine ag_chk (fun h65 => ?_)
          refine aM_46 (by decide) h65 dX12_call_389 ?_
          refine ag_iconst (v := 3) dX12_call_390 (by decide) ?_
          refine ag_icmp_ne (tgt := 398) dX12_call_391 (by decide) (fun h66 => ?_) (fun h66 => ?_)
          · refine ag_iconst (v := 0) dX12_call_398 (by decide) ?_
            exact hk51 false
          · refine ag_iconst (v := 1) dX12_call_394 (by decide) ?_
            refine ag_goto (tgt := 399) dX12_call_395 (by decide) ?_
            exact hk51 true
        · refine ag_aload_n dX12_call_371 rfl ?_
          refine gM_X12_on ho0 fl_X12_76 dX12_call_372 ?_
          refine ag_aload_n dX12_call_375 rfl ?_
          refine gM_X12_t0 ho0 fl_X12_330 dX12_call_376 ?_
          refine ag_chk (fun h67 => ?_)
          refine aM_52 (by decide) h67 dX12_call_379 ?_
          refine ag_goto (tgt := 399) dX12_call_380 (by decide) ?_
          exact hk51 (i2b (p47 5200 0 (p47 1080 o0 0).toNatClampNeg))
    · refine ag_loop2 (F := f_X12_call_L309 o0 k42) (L1 := fun v68 V69 => [some (.ref (bs + posM 10 o0)), some (.int x1), some (.int v7), some (.int v37), some (.int v40), some (.int v41), some (.int v68)]) (st1 := fun v68 V69 => []) (ws1 := fun v68 V69 => vwM cy bs V69) (fun n70 ih71 v68 V69 => ?_) (fun _ _ => rfl) FU 0 p39
      rw [f_X12_call_L309]
      refine ag_iload dX12_call_309 rfl ?_
      refine ag_bipush (v := 10) dX12_call_311 (by decide) ?_
      refine ag_icmp_ge (tgt := 335) dX12_call_313 (by decide) (fun h72 => ?_) (fun h72 => ?_)
      · refine ag_drop [6] (L' := [some (.ref (bs + posM 10 o0)), some (.int x1), some (.int v7), some (.int v37), some (.int v40), some (.int v41), none]) rfl ?_
        exact hk43 V69
      · refine ag_aload_n dX12_call_316 rfl ?_
        refine ag_aload_n dX12_call_317 rfl ?_
        refine gM_X12_t0 ho0 fl_X12_330 dX12_call_318 ?_
        refine ag_iload dX12_call_321 rfl ?_
        refine ag_isIp (c_X12_reg (V69 1080 o0 0) v68  rfl) vwM_D cs_X12_307 rfl rfl (Nat.le_of_ble_eq_true rfl) ⟨by decide, by decide⟩ ⟨Nat.zero_le _, Nat.zero_le _⟩ dX12_call_323 ?_
        refine ag_ltI (fun v73 => ?_)
        refine ag_bnd (fun p74 hp74 => ?_)
        refine ag_ivVe (c_X12_nothing o0 v73 ho0 hp74) vwM_D (vwM_at (kpM_10 _ ho0)) rfl cs_X12_246 rfl rfl (Nat.le_of_ble_eq_true rfl) ⟨by decide, by decide⟩ ⟨Nat.zero_le _, Nat.zero_le _⟩ dX12_call_326 ?_
        refine ag_iincL (L' := fun v75 => [some (.ref (bs + posM 10 o0)), some (.int x1), some (.int v7), some (.int v37), some (.int v40), some (.int v41), some (.int v75)]) dX12_call_329 (by decide) rfl (by decide) (fun _ => rfl) (fun v75 => ?_)
        refine ag_goto (tgt := 309) dX12_call_332 (by decide) ?_
        exact ih71 v75 p74
  · refine ag_aload_n dX12_call_25 rfl ?_
    refine ag_aload_n dX12_call_26 rfl ?_
    refine gM_X12_t0 ho0 fl_X12_330 dX12_call_27 ?_
    refine ag_bipush (v := 10) dX12_call_30 (by decide) ?_
    refine ag_isIp (c_X12_reg (p1 1080 o0 0) 10  rfl) vwM_D cs_X12_307 rfl rfl (Nat.le_of_ble_eq_true rfl) ⟨by decide, by decide⟩ ⟨Nat.zero_le _, Nat.zero_le _⟩ dX12_call_32 ?_
    refine ag_ltI (fun v76 => ?_)
    refine ag_iconst (v := (-1)) dX12_call_35 (by decide) ?_
    refine ag_bnd (fun p77 hp77 => ?_)
    refine ag_ivVe (c_X12_number o0 v76 (-1) ho0 hp77) vwM_D (vwM_at (kpM_10 _ ho0)) rfl cs_X12_333 rfl rfl (Nat.le_of_ble_eq_true rfl) ⟨by decide, by decide⟩ ⟨Nat.zero_le _, Nat.zero_le _⟩ dX12_call_36 ?_
    refine ag_aload_n dX12_call_39 rfl ?_
    refine ag_aload_n dX12_call_40 rfl ?_
    refine gM_X12_t0 ho0 fl_X12_330 dX12_call_41 ?_
    refine ag_bipush (v := 11) dX12_call_44 (by decide) ?_
    refine ag_isIp (c_X12_reg (p77 1080 o0 0) 11  rfl) vwM_D cs_X12_307 rfl rfl (Nat.le_of_ble_eq_true rfl) ⟨by decide, by decide⟩ ⟨Nat.zero_le _, Nat.zero_le _⟩ dX12_call_46 ?_
    refine ag_ltI (fun v78 => ?_)
    refine ag_bipush (v := 8) dX12_call_49 (by decide) ?_
    refine ag_bnd (fun p79 hp79 => ?_)
    refine ag_ivVe (c_X12_number o0 v78 8 ho0 hp79) vwM_D (vwM_at (kpM_10 _ ho0)) rfl cs_X12_333 rfl rfl (Nat.le_of_ble_eq_true rfl) ⟨by decide, by decide⟩ ⟨Nat.zero_le _, Nat.zero_le _⟩ dX12_call_51 ?_
    exact ag_vrep dX12_call_54
set_option maxRecDepth 100000 in
set_option maxHeartbeats 4000000 in
theorem c_X12_empties {l : Launch} {D : va_G} {cy : Nat → ClassId} {bs : Nat} {V : HV} (o0 : Nat) (ho0 : o0 < 1) {z : HV} (hz : f_X12_empties o0 V = some z) : CM l (aG 57 bs) D (tyL cy) (vwM cy bs) yX12_empties cX12_empties 2 none 2 48 tvV [.ref (bs + posM 10 o0)] V ((), z) := by
  refine cm_of vwM_D (by decide +kernel) (own := RX12) rfl (Nat.le_of_ble_eq_true rfl) (L := [some (.ref (bs + posM 10 o0)), none]) rfl hz (fun Γ => ?_)
  unfold f_X12_empties
  refine ag_iconst (v := 0) dX12_empties_0 (by decide) ?_
  refine ag_istore_n (L' := [some (.ref (bs + posM 10 o0)), some (.int 0)]) dX12_empties_1 (by decide) rfl ?_
  refine ag_jn1 (j := 38) (L1 := fun V3 => [some (.ref (bs + posM 10 o0)), none]) (st1 := fun V3 => []) (ws1 := fun V3 => vwM cy bs V3) (fun V3 => ?_) (fun k1 hk2 => ?_)
  · exact ag_vrep dX12_empties_38
  · refine ag_loop2 (F := f_X12_empties_L2 o0 k1) (L1 := fun v4 V5 => [some (.ref (bs + posM 10 o0)), some (.int v4)]) (st1 := fun v4 V5 => []) (ws1 := fun v4 V5 => vwM cy bs V5) (fun n6 ih7 v4 V5 => ?_) (fun _ _ => rfl) FU 0 V
    rw [f_X12_empties_L2]
    refine ag_iload_n dX12_empties_2 rfl ?_
    refine ag_bipush (v := 16) dX12_empties_3 (by decide) ?_
    refine ag_icmp_ge (tgt := 38) dX12_empties_5 (by decide) (fun h8 => ?_) (fun h8 => ?_)
    · refine ag_drop [1] (L' := [some (.ref (bs + posM 10 o0)), none]) rfl ?_
      exact hk2 V5
    · refine ag_iload_n dX12_empties_8 rfl ?_
      refine ag_bipush (v := 10) dX12_empties_9 (by decide) ?_
      refine ag_jn1 (j := 32) (L1 := fun V9 => [some (.ref (bs + posM 10 o0)), some (.int v4)]) (st1 := fun V9 => []) (ws1 := fun V9 => vwM cy bs V9) (fun V9 => ?_) (fun k10 hk11 => ?_)
      · refine ag_iincL (L' := fun v12 => [some (.ref (bs + posM 10 o0)), some (.int v12)]) dX12_empties_32 (by decide) rfl (by decide) (fun _ => rfl) (fun v12 => ?_)
        refine ag_goto (tgt := 2) dX12_empties_35 (by decide) ?_
        exact ih7 v12 V9
      · refine ag_icmp_eq (tgt := 32) dX12_empties_11 (by decide) (fun h13 => ?_) (fun h13 => ?_)
        · exact hk11 V5
        · refine ag_iload_n dX12_empties_14 rfl ?_
          refine ag_bipush (v := 11) dX12_empties_15 (by decide) ?_
          refine ag_icmp_eq (tgt := 32) dX12_empties_17 (by decide) (fun h14 => ?_) (fun h14 => ?_)
          · exact hk11 V5
          · refine ag_aload_n dX12_empties_20 rfl ?_
            refine ag_aload_n dX12_empties_21 rfl ?_
            refine gM_X12_t0 ho0 fl_X12_330 dX12_empties_22 ?_
            refine ag_iload_n dX12_empties_25 rfl ?_
            refine ag_isIp (c_X12_reg (V5 1080 o0 0) v4  rfl) vwM_D cs_X12_307 rfl rfl (Nat.le_of_ble_eq_true rfl) ⟨by decide, by decide⟩ ⟨Nat.zero_le _, Nat.zero_le _⟩ dX12_empties_26 ?_
            refine ag_ltI (fun v15 => ?_)
            refine ag_bnd (fun p16 hp16 => ?_)
            refine ag_ivVe (c_X12_nothing o0 v15 ho0 hp16) vwM_D (vwM_at (kpM_10 _ ho0)) rfl cs_X12_246 rfl rfl (Nat.le_of_ble_eq_true rfl) ⟨by decide, by decide⟩ ⟨Nat.zero_le _, Nat.zero_le _⟩ dX12_empties_29 ?_
            exact hk11 p16
set_option maxRecDepth 100000 in
set_option maxHeartbeats 4000000 in
theorem c_X12_returns {l : Launch} {D : va_G} {cy : Nat → ClassId} {bs : Nat} {V : HV} (o0 : Nat) (ho0 : o0 < 1) {z : HV} (hz : f_X12_returns o0 V = some z) : CM l (aG 57 bs) D (tyL cy) (vwM cy bs) yX12_returns cX12_returns 3 none 3 69 tvV [.ref (bs + posM 10 o0)] V ((), z) := by
  refine cm_of vwM_D (by decide +kernel) (own := RX12) rfl (Nat.le_of_ble_eq_true rfl) (L := [some (.ref (bs + posM 10 o0)), none, none]) rfl hz (fun Γ => ?_)
  unfold f_X12_returns
  refine ag_aload_n dX12_returns_0 rfl ?_
  refine gM_X12_depth ho0 fl_X12_70 dX12_returns_1 ?_
  refine ag_aload_n dX12_returns_4 rfl ?_
  refine gM_X12_t0 ho0 fl_X12_330 dX12_returns_5 ?_
  refine ag_chk (fun h1 => ?_)
  refine aM_50 (by decide) h1 dX12_returns_8 ?_
  refine ag_if_ne (tgt := 59) dX12_returns_9 (by decide) (fun h2 => ?_) (fun h2 => ?_)
  · refine ag_aload_n dX12_returns_59 rfl ?_
    refine gM_X12_depth ho0 fl_X12_70 dX12_returns_60 ?_
    refine ag_aload_n dX12_returns_63 rfl ?_
    refine gM_X12_t0 ho0 fl_X12_330 dX12_returns_64 ?_
    refine ag_dup2 dX12_returns_67 rfl rfl ?_
    refine ag_chk (fun h3 => ?_)
    refine aM_50 (by decide) h3 dX12_returns_68 ?_
    refine ag_iconst (v := 1) dX12_returns_69 (by decide) ?_
    refine ag_isub dX12_returns_70 ?_
    refine ag_chk (fun h4 => ?_)
    refine sM_50 (by decide) h4 dX12_returns_71 ?_
    refine ag_ltV (fun V5 => ?_)
    refine ag_aload_n dX12_returns_72 rfl ?_
    refine gM_X12_depth ho0 fl_X12_70 dX12_returns_73 ?_
    refine ag_aload_n dX12_returns_76 rfl ?_
    refine gM_X12_t0 ho0 fl_X12_330 dX12_returns_77 ?_
    refine ag_chk (fun h6 => ?_)
    refine aM_50 (by decide) h6 dX12_returns_80 ?_
    refine ag_ltI (fun v7 => ?_)
    refine ag_istore_n (L' := [some (.ref (bs + posM 10 o0)), some (.int v7), none]) dX12_returns_81 (by decide) rfl ?_
    refine ag_aload_n dX12_returns_82 rfl ?_
    refine ag_bnd (fun p8 hp8 => ?_)
    refine ag_ivVe (c_X12_empties o0 ho0 hp8) vwM_D (vwM_at (kpM_10 _ ho0)) rfl cs_X12_462 rfl rfl (Nat.le_of_ble_eq_true rfl) ⟨by decide, by decide⟩ ⟨Nat.zero_le _, Nat.zero_le _⟩ dX12_returns_83 ?_
    refine ag_aload_n dX12_returns_86 rfl ?_
    refine ag_aload_n dX12_returns_87 rfl ?_
    refine gM_X12_t0 ho0 fl_X12_330 dX12_returns_88 ?_
    refine ag_iload_n dX12_returns_91 rfl ?_
    refine ag_iconst (v := 0) dX12_returns_92 (by decide) ?_
    refine ag_isIp (c_X12_frame (p8 1080 o0 0) v7 0  rfl) vwM_D cs_X12_456 rfl rfl (Nat.le_of_ble_eq_true rfl) ⟨by decide, by decide⟩ ⟨Nat.zero_le _, Nat.zero_le _⟩ dX12_returns_93 ?_
    refine ag_ltI (fun v9 => ?_)
    refine ag_aload_n dX12_returns_96 rfl ?_
    refine ag_ivIp (c_X12_pcc o0 ho0 rfl) vwM_D (vwM_at (kpM_10 _ ho0)) rfl cs_X12_339 rfl rfl (Nat.le_of_ble_eq_true rfl) ⟨by decide, by decide⟩ ⟨Nat.zero_le _, Nat.zero_le _⟩ dX12_returns_97 ?_
    refine ag_ltI (fun v10 => ?_)
    refine ag_bnd (fun p11 hp11 => ?_)
    refine ag_ivVe (c_X12_copy o0 v9 v10 ho0 hp11) vwM_D (vwM_at (kpM_10 _ ho0)) rfl cs_X12_336 rfl rfl (Nat.le_of_ble_eq_true rfl) ⟨by decide, by decide⟩ ⟨Nat.zero_le _, Nat.zero_le _⟩ dX12_returns_100 ?_
    refine ag_aload_n dX12_returns_103 rfl ?_
    refine ag_aload_n dX12_returns_104 rfl ?_
    refine gM_X12_t0 ho0 fl_X12_330 dX12_returns_105 ?_
    refine ag_iload_n dX12_returns_108 rfl ?_
    refine ag_iconst (v := 1) dX12_returns_109 (by decide) ?_
    refine ag_isIp (c_X12_frame (p11 1080 o0 0) v7 1  rfl) vwM_D cs_X12_456 rfl rfl (Nat.le_of_ble_eq_true rfl) ⟨by decide, by decide⟩ ⟨Nat.zero_le _, Nat.zero_le _⟩ dX12_returns_110 ?_
    refine ag_ltI (fun v12 => ?_)
    refine ag_aload_n dX12_returns_113 rfl ?_
    refine gM_X12_t0 ho0 fl_X12_330 dX12_returns_114 ?_
    refine ag_iconst (v := 2) dX12_returns_117 (by decide) ?_
    refine ag_isIp (c_X12_reg (p11 1080 o0 0) 2  rfl) vwM_D cs_X12_307 rfl rfl (Nat.le_of_ble_eq_true rfl) ⟨by decide, by decide⟩ ⟨Nat.zero_le _, Nat.zero_le _⟩ dX12_returns_118 ?_
    refine ag_ltI (fun v13 => ?_)
    refine ag_bnd (fun p14 hp14 => ?_)
    refine ag_ivVe (c_X12_copy o0 v12 v13 ho0 hp14) vwM_D (vwM_at (kpM_10 _ ho0)) rfl cs_X12_336 rfl rfl (Nat.le_of_ble_eq_true rfl) ⟨by decide, by decide⟩ ⟨Nat.zero_le _, Nat.zero_le _⟩ dX12_returns_121 ?_
    refine ag_aload_n dX12_returns_124 rfl ?_
    refine ag_aload_n dX12_returns_125 rfl ?_
    refine gM_X12_t0 ho0 fl_X12_330 dX12_returns_126 ?_
    refine ag_iload_n dX12_returns_129 rfl ?_
    refine ag_iconst (v := 2) dX12_returns_130 (by decide) ?_
    refine ag_isIp (c_X12_frame (p14 1080 o0 0) v7 2  rfl) vwM_D cs_X12_456 rfl rfl (Nat.le_of_ble_eq_true rfl) ⟨by decide, by decide⟩ ⟨Nat.zero_le _, Nat.zero_le _⟩ dX12_returns_131 ?_
    refine ag_ltI (fun v15 => ?_)
    refine ag_aload_n dX12_returns_134 rfl ?_
    refine gM_X12_t0 ho0 fl_X12_330 dX12_returns_135 ?_
    refine ag_iconst (v := 3) dX12_returns_138 (by decide) ?_
    refine ag_isIp (c_X12_reg (p14 1080 o0 0) 3  rfl) vwM_D cs_X12_307 rfl rfl (Nat.le_of_ble_eq_true rfl) ⟨by decide, by decide⟩ ⟨Nat.zero_le _, Nat.zero_le _⟩ dX12_returns_139 ?_
    refine ag_ltI (fun v16 => ?_)
    refine ag_bnd (fun p17 hp17 => ?_)
    refine ag_ivVe (c_X12_copy o0 v15 v16 ho0 hp17) vwM_D (vwM_at (kpM_10 _ ho0)) rfl cs_X12_336 rfl rfl (Nat.le_of_ble_eq_true rfl) ⟨by decide, by decide⟩ ⟨Nat.zero_le _, Nat.zero_le _⟩ dX12_returns_142 ?_
    refine ag_aload_n dX12_returns_145 rfl ?_
    refine ag_aload_n dX12_returns_146 rfl ?_
    refine gM_X12_t0 ho0 fl_X12_330 dX12_returns_147 ?_
    refine ag_iload_n dX12_returns_150 rfl ?_
    refine ag_iconst (v := 3) dX12_returns_151 (by decide) ?_
    refine ag_isIp (c_X12_frame (p17 1080 o0 0) v7 3  rfl) vwM_D cs_X12_456 rfl rfl (Nat.le_of_ble_eq_true rfl) ⟨by decide, by decide⟩ ⟨Nat.zero_le _, Nat.zero_le _⟩ dX12_returns_152 ?_
    refine ag_ltI (fun v18 => ?_)
    refine ag_aload_n dX12_returns_155 rfl ?_
    refine gM_X12_t0 ho0 fl_X12_330 dX12_returns_156 ?_
    refine ag_bipush (v := 8) dX12_returns_159 (by decide) ?_
    refine ag_isIp (c_X12_reg (p17 1080 o0 0) 8  rfl) vwM_D cs_X12_307 rfl rfl (Nat.le_of_ble_eq_true rfl) ⟨by decide, by decide⟩ ⟨Nat.zero_le _, Nat.zero_le _⟩ dX12_returns_161 ?_
    refine ag_ltI (fun v19 => ?_)
    refine ag_bnd (fun p20 hp20 => ?_)
    refine ag_ivVe (c_X12_copy o0 v18 v19 ho0 hp20) vwM_D (vwM_at (kpM_10 _ ho0)) rfl cs_X12_336 rfl rfl (Nat.le_of_ble_eq_true rfl) ⟨by decide, by decide⟩ ⟨Nat.zero_le _, Nat.zero_le _⟩ dX12_returns_164 ?_
    refine ag_aload_n dX12_returns_167 rfl ?_
    refine ag_aload_n dX12_returns_168 rfl ?_
    refine gM_X12_t0 ho0 fl_X12_330 dX12_returns_169 ?_
    refine ag_iload_n dX12_returns_172 rfl ?_
    refine ag_iconst (v := 4) dX12_returns_173 (by decide) ?_
    refine ag_isIp (c_X12_frame (p20 1080 o0 0) v7 4  rfl) vwM_D cs_X12_456 rfl rfl (Nat.le_of_ble_eq_true rfl) ⟨by decide, by decide⟩ ⟨Nat.zero_le _, Nat.zero_le _⟩ dX12_returns_174 ?_
    refine ag_ltI (fun v21 => ?_)
    refine ag_aload_n dX12_returns_177 rfl ?_
    refine gM_X12_t0 ho0 fl_X12_330 dX12_returns_178 ?_
    refine ag_bipush (v := 9) dX12_returns_181 (by decide) ?_
    refine ag_isIp (c_X12_reg (p20 1080 o0 0) 9  rfl) vwM_D cs_X12_307 rfl rfl (Nat.le_of_ble_eq_true rfl) ⟨by decide, by decide⟩ ⟨Nat.zero_le _, Nat.zero_le _⟩ dX12_returns_183 ?_
    refine ag_ltI (fun v22 => ?_)
    refine ag_bnd (fun p23 hp23 => ?_)
    refine ag_ivVe (c_X12_copy o0 v21 v22 ho0 hp23) vwM_D (vwM_at (kpM_10 _ ho0)) rfl cs_X12_336 rfl rfl (Nat.le_of_ble_eq_true rfl) ⟨by decide, by decide⟩ ⟨Nat.zero_le _, Nat.zero_le _⟩ dX12_returns_186 ?_
    refine ag_iconst (v := 0) dX12_returns_189 (by decide) ?_
    refine ag_istore_n (L' := [some (.ref (bs + posM 10 o0)), some (.int v7), some (.int 0)]) dX12_returns_190 (by decide) rfl ?_
    refine ag_jn1 (j := 215) (L1 := fun V26 => [some (.ref (bs + posM 10 o0)), some (.int v7), none]) (st1 := fun V26 => []) (ws1 := fun V26 => vwM cy bs V26) (fun V26 => ?_) (fun k24 hk25 => ?_)
    · refine ag_aload_n dX12_returns_215 rfl ?_
      refine ag_aload_n dX12_returns_216 rfl ?_
      refine ag_ivIp (c_X12_pcc o0 ho0 rfl) vwM_D (vwM_at (kpM_10 _ ho0)) rfl cs_X12_339 rfl rfl (Nat.le_of_ble_eq_true rfl) ⟨by decide, by decide⟩ ⟨Nat.zero_le _, Nat.zero_le _⟩ dX12_returns_217 ?_
      refine ag_ltI (fun v27 => ?_)
      refine ag_bnd (fun p28 hp28 => ?_)
      refine ag_ivVe (c_X12_filter o0 v27 ho0 hp28) vwM_D (vwM_at (kpM_10 _ ho0)) rfl cs_X12_417 rfl rfl (Nat.le_of_ble_eq_true rfl) ⟨by decide, by decide⟩ ⟨Nat.zero_le _, Nat.zero_le _⟩ dX12_returns_220 ?_
      refine ag_aload_n dX12_returns_223 rfl ?_
      refine ag_aload_n dX12_returns_224 rfl ?_
      refine gM_X12_t0 ho0 fl_X12_330 dX12_returns_225 ?_
      refine ag_iconst (v := 2) dX12_returns_228 (by decide) ?_
      refine ag_isIp (c_X12_reg (p28 1080 o0 0) 2  rfl) vwM_D cs_X12_307 rfl rfl (Nat.le_of_ble_eq_true rfl) ⟨by decide, by decide⟩ ⟨Nat.zero_le _, Nat.zero_le _⟩ dX12_returns_229 ?_
      refine ag_ltI (fun v29 => ?_)
      refine ag_bnd (fun p30 hp30 => ?_)
      refine ag_ivVe (c_X12_filter o0 v29 ho0 hp30) vwM_D (vwM_at (kpM_10 _ ho0)) rfl cs_X12_417 rfl rfl (Nat.le_of_ble_eq_true rfl) ⟨by decide, by decide⟩ ⟨Nat.zero_le _, Nat.zero_le _⟩ dX12_returns_232 ?_
      refine ag_aload_n dX12_returns_235 rfl ?_
      refine ag_aload_n dX12_returns_236 rfl ?_
      refine gM_X12_t0 ho0 fl_X12_330 dX12_returns_237 ?_
      refine ag_iconst (v := 3) dX12_returns_240 (by decide) ?_
      refine ag_isIp (c_X12_reg (p30 1080 o0 0) 3  rfl) vwM_D cs_X12_307 rfl rfl (Nat.le_of_ble_eq_true rfl) ⟨by decide, by decide⟩ ⟨Nat.zero_le _, Nat.zero_le _⟩ dX12_returns_241 ?_
      refine ag_ltI (fun v31 => ?_)
      refine ag_bnd (fun p32 hp32 => ?_)
      refine ag_ivVe (c_X12_filter o0 v31 ho0 hp32) vwM_D (vwM_at (kpM_10 _ ho0)) rfl cs_X12_417 rfl rfl (Nat.le_of_ble_eq_true rfl) ⟨by decide, by decide⟩ ⟨Nat.zero_le _, Nat.zero_le _⟩ dX12_returns_244 ?_
      refine ag_aload_n dX12_returns_247 rfl ?_
      refine ag_aload_n dX12_returns_248 rfl ?_
      refine gM_X12_t0 ho0 fl_X12_330 dX12_returns_249 ?_
      refine ag_bipush (v := 8) dX12_returns_252 (by decide) ?_
      refine ag_isIp (c_X12_reg (p32 1080 o0 0) 8  rfl) vwM_D cs_X12_307 rfl rfl (Nat.le_of_ble_eq_true rfl) ⟨by decide, by decide⟩ ⟨Nat.zero_le _, Nat.zero_le _⟩ dX12_returns_254 ?_
      refine ag_ltI (fun v33 => ?_)
      refine ag_bnd (fun p34 hp34 => ?_)
      refine ag_ivVe (c_X12_filter o0 v33 ho0 hp34) vwM_D (vwM_at (kpM_10 _ ho0)) rfl cs_X12_417 rfl rfl (Nat.le_of_ble_eq_true rfl) ⟨by decide, by decide⟩ ⟨Nat.zero_le _, Nat.zero_le _⟩ dX12_returns_257 ?_
      refine ag_aload_n dX12_returns_260 rfl ?_
      refine ag_aload_n dX12_returns_261 rfl ?_
      refine gM_X12_t0 ho0 fl_X12_330 dX12_returns_262 ?_
      refine ag_bipush (v := 9) dX12_returns_265 (by decide) ?_
      refine ag_isIp (c_X12_reg (p34 1080 o0 0) 9  rfl) vwM_D cs_X12_307 rfl rfl (Nat.le_of_ble_eq_true rfl) ⟨by decide, by decide⟩ ⟨Nat.zero_le _, Nat.zero_le _⟩ dX12_returns_267 ?_
      refine ag_ltI (fun v35 => ?_)
      refine ag_bnd (fun p36 hp36 => ?_)
      refine ag_ivVe (c_X12_filter o0 v35 ho0 hp36) vwM_D (vwM_at (kpM_10 _ ho0)) rfl cs_X12_417 rfl rfl (Nat.le_of_ble_eq_true rfl) ⟨by decide, by decide⟩ ⟨Nat.zero_le _, Nat.zero_le _⟩ dX12_returns_270 ?_
      refine ag_aload_n dX12_returns_273 rfl ?_
      refine gM_X12_home ho0 fl_X12_67 dX12_returns_274 ?_
      refine ag_aload_n dX12_returns_277 rfl ?_
      refine gM_X12_t0 ho0 fl_X12_330 dX12_returns_278 ?_
      refine ag_aload_n dX12_returns_281 rfl ?_
      refine gM_X12_frameHome ho0 fl_X12_112 dX12_returns_282 ?_
      refine ag_bipush (v := 16) dX12_returns_285 (by decide) ?_
      refine ag_aload_n dX12_returns_287 rfl ?_
      refine gM_X12_t0 ho0 fl_X12_330 dX12_returns_288 ?_
      refine ag_imul dX12_returns_291 ?_
      refine ag_iload_n dX12_returns_292 rfl ?_
      refine ag_iadd dX12_returns_293 ?_
      refine ag_chk (fun h37 => ?_)
      refine aM_64 (by decide) h37 dX12_returns_294 ?_
      refine ag_chk (fun h38 => ?_)
      refine sM_49 (by decide) h38 dX12_returns_295 ?_
      refine ag_ltV (fun V39 => ?_)
      refine ag_aload_n dX12_returns_296 rfl ?_
      refine gM_X12_on ho0 fl_X12_76 dX12_returns_297 ?_
      refine ag_aload_n dX12_returns_300 rfl ?_
      refine gM_X12_t0 ho0 fl_X12_330 dX12_returns_301 ?_
      refine ag_aload_n dX12_returns_304 rfl ?_
      refine gM_X12_frameOn ho0 fl_X12_115 dX12_returns_305 ?_
      refine ag_bipush (v := 16) dX12_returns_308 (by decide) ?_
      refine ag_aload_n dX12_returns_310 rfl ?_
      refine gM_X12_t0 ho0 fl_X12_330 dX12_returns_311 ?_
      refine ag_imul dX12_returns_314 ?_
      refine ag_iload_n dX12_returns_315 rfl ?_
      refine ag_iadd dX12_returns_316 ?_
      refine ag_chk (fun h40 => ?_)
      refine aM_65 (by decide) h40 dX12_returns_317 ?_
      refine ag_chk (fun h41 => ?_)
      refine sM_52 (x := (i2b (V39 6500 0 ((16 * (V39 1080 o0 0)) + v7).toNatClampNeg))) (by decide) h41 dX12_returns_318 ?_
      refine ag_ltV (fun V42 => ?_)
      refine ag_aload_n dX12_returns_319 rfl ?_
      refine gM_X12_given ho0 fl_X12_94 dX12_returns_320 ?_
      refine ag_aload_n dX12_returns_323 rfl ?_
      refine gM_X12_t0 ho0 fl_X12_330 dX12_returns_324 ?_
      refine ag_aload_n dX12_returns_327 rfl ?_
      refine gM_X12_frameGiven ho0 fl_X12_118 dX12_returns_328 ?_
      refine ag_bipush (v := 16) dX12_returns_331 (by decide) ?_
      refine ag_aload_n dX12_returns_333 rfl ?_
      refine gM_X12_t0 ho0 fl_X12_330 dX12_returns_334 ?_
      refine ag_imul dX12_returns_337 ?_
      refine ag_iload_n dX12_returns_338 rfl ?_
      refine ag_iadd dX12_returns_339 ?_
      refine ag_chk (fun h43 => ?_)
      refine aM_66 (by decide) h43 dX12_returns_340 ?_
      refine ag_chk (fun h44 => ?_)
      refine sM_58 (by decide) h44 dX12_returns_341 ?_
      refine ag_ltV (fun V45 => ?_)
      refine ag_aload_n dX12_returns_342 rfl ?_
      refine ag_aload_n dX12_returns_343 rfl ?_
      refine gM_X12_stackAt ho0 fl_X12_88 dX12_returns_344 ?_
      refine ag_aload_n dX12_returns_347 rfl ?_
      refine gM_X12_t0 ho0 fl_X12_330 dX12_returns_348 ?_
      refine ag_chk (fun h46 => ?_)
      refine aM_56 (by decide) h46 dX12_returns_351 ?_
      refine ag_aload_n dX12_returns_352 rfl ?_
      refine gM_X12_cursor ho0 fl_X12_7 dX12_returns_353 ?_
      refine ag_aload_n dX12_returns_356 rfl ?_
      refine gM_X12_t0 ho0 fl_X12_330 dX12_returns_357 ?_
      refine ag_iconst (v := 2) dX12_returns_360 (by decide) ?_
      refine ag_isIp (c_X12_reg (V45 1080 o0 0) 2  rfl) vwM_D cs_X12_307 rfl rfl (Nat.le_of_ble_eq_true rfl) ⟨by decide, by decide⟩ ⟨Nat.zero_le _, Nat.zero_le _⟩ dX12_returns_361 ?_
      refine ag_ltI (fun v47 => ?_)
      refine ag_chk (fun h48 => ?_)
      refine aM_24 (by decide) h48 dX12_returns_364 ?_
      refine ag_bnd (fun p49 hp49 => ?_)
      refine ag_ivVe (c_X12_wipe o0 (V45 5600 0 (V45 1080 o0 0).toNatClampNeg) (V45 2400 0 (v47).toNatClampNeg) ho0 hp49) vwM_D (vwM_at (kpM_10 _ ho0)) rfl cs_X12_459 rfl rfl (Nat.le_of_ble_eq_true rfl) ⟨by decide, by decide⟩ ⟨Nat.zero_le _, Nat.zero_le _⟩ dX12_returns_365 ?_
      exact ag_vrep dX12_returns_368
    · refine ag_loop2 (F := f_X12_returns_L191 o0 v7 k24) (L1 := fun v50 V51 => [some (.ref (bs + posM 10 o0)), some (.int v7), some (.int v50)]) (st1 := fun v50 V51 => []) (ws1 := fun v50 V51 => vwM cy bs V51) (fun n52 ih53 v50 V51 => ?_) (fun _ _ => rfl) FU 0 p23
      rw [f_X12_returns_L191]
      refine ag_iload_n dX12_returns_191 rfl ?_
      refine ag_iconst (v := 5) dX12_returns_192 (by decide) ?_
      refine ag_icmp_ge (tgt := 215) dX12_returns_193 (by decide) (fun h54 => ?_) (fun h54 => ?_)
      · refine ag_drop [2] (L' := [some (.ref (bs + posM 10 o0)), some (.int v7), none]) rfl ?_
        exact hk25 V51
      · refine ag_aload_n dX12_returns_196 rfl ?_
        refine ag_aload_n dX12_returns_197 rfl ?_
        refine gM_X12_t0 ho0 fl_X12_330 dX12_returns_198 ?_
        refine ag_iload_n dX12_returns_201 rfl ?_
        refine ag_iload_n dX12_returns_202 rfl ?_
        refine ag_isIp (c_X12_frame (V51 1080 o0 0) v7 v50  rfl) vwM_D cs_X12_456 rfl rfl (Nat.le_of_ble_eq_true rfl) ⟨by decide, by decide⟩ ⟨Nat.zero_le _, Nat.zero_le _⟩ dX12_returns_203 ?_
        refine ag_ltI (fun v55 => ?_)
        refine ag_bnd (fun p56 hp56 => ?_)
        refine ag_ivVe (c_X12_nothing o0 v55 ho0 hp56) vwM_D (vwM_at (kpM_10 _ ho0)) rfl cs_X12_246 rfl rfl (Nat.le_of_ble_eq_true rfl) ⟨by decide, by decide⟩ ⟨Nat.zero_le _, Nat.zero_le _⟩ dX12_returns_206 ?_
        refine ag_iincL (L' := fun v57 => [some (.ref (bs + posM 10 o0)), some (.int v7), some (.int v57)]) dX12_returns_209 (by decide) rfl (by decide) (fun _ => rfl) (fun v57 => ?_)
        refine ag_goto (tgt := 191) dX12_returns_212 (by decide) ?_
        exact ih53 v57 p56
  · refine ag_aload_n dX12_returns_12 rfl ?_
    refine gM_X12_state ho0 fl_X12_61 dX12_returns_13 ?_
    refine ag_aload_n dX12_returns_16 rfl ?_
    refine gM_X12_t0 ho0 fl_X12_330 dX12_returns_17 ?_
    refine ag_iconst (v := 3) dX12_returns_20 (by decide) ?_
    refine ag_chk (fun h58 => ?_)
    refine sM_47 (by decide) h58 dX12_returns_21 ?_
    refine ag_ltV (fun V59 => ?_)
    refine ag_aload_n dX12_returns_22 rfl ?_
    refine gM_X12_wake ho0 fl_X12_64 dX12_returns_23 ?_
    refine ag_aload_n dX12_returns_26 rfl ?_
    refine gM_X12_t0 ho0 fl_X12_330 dX12_returns_27 ?_
    refine ag_iconst (v := (-1)) dX12_returns_30 (by decide) ?_
    refine ag_chk (fun h60 => ?_)
    refine sM_48 (by decide) h60 dX12_returns_31 ?_
    refine ag_ltV (fun V61 => ?_)
    refine ag_iconst (v := 0) dX12_returns_32 (by decide) ?_
    refine ag_istore_n (L' := [some (.ref (bs + posM 10 o0)), some (.int 0), none]) dX12_returns_33 (by decide) rfl ?_
    refine ag_jn1 (j := 58) (L1 := fun V64 => [some (.ref (bs + posM 10 o0)), none, none]) (st1 := fun V64 => []) (ws1 := fun V64 => vwM cy bs V64) (fun V64 => ?_) (fun k62 hk63 => ?_)
    · exact ag_vrep dX12_returns_58
    · refine ag_loop2 (F := f_X12_returns_L34 o0 k62) (L1 := fun v65 V66 => [some (.ref (bs + posM 10 o0)), some (.int v65), none]) (st1 := fun v65 V66 => []) (ws1 := fun v65 V66 => vwM cy bs V66) (fun n67 ih68 v65 V66 => ?_) (fun _ _ => rfl) FU 0 V61
      rw [f_X12_returns_L34]
      refine ag_iload_n dX12_returns_34 rfl ?_
      refine ag_bipush (v := 16) dX12_returns_35 (by decide) ?_
      refine ag_icmp_gt (tgt := 58) dX12_returns_37 (by decide) (fun h69 => ?_) (fun h69 => ?_)
      · refine ag_drop [1] (L' := [some (.ref (bs + posM 10 o0)), none, none]) rfl ?_
        exact hk63 V66
      · refine ag_aload_n dX12_returns_40 rfl ?_
        refine ag_aload_n dX12_returns_41 rfl ?_
        refine gM_X12_t0 ho0 fl_X12_330 dX12_returns_42 ?_
        refine ag_iload_n dX12_returns_45 rfl ?_
        refine ag_isIp (c_X12_reg (V66 1080 o0 0) v65  rfl) vwM_D cs_X12_307 rfl rfl (Nat.le_of_ble_eq_true rfl) ⟨by decide, by decide⟩ ⟨Nat.zero_le _, Nat.zero_le _⟩ dX12_returns_46 ?_
        refine ag_ltI (fun v70 => ?_)
        refine ag_bnd (fun p71 hp71 => ?_)
        refine ag_ivVe (c_X12_nothing o0 v70 ho0 hp71) vwM_D (vwM_at (kpM_10 _ ho0)) rfl cs_X12_246 rfl rfl (Nat.le_of_ble_eq_true rfl) ⟨by decide, by decide⟩ ⟨Nat.zero_le _, Nat.zero_le _⟩ dX12_returns_49 ?_
        refine ag_iincL (L' := fun v72 => [some (.ref (bs + posM 10 o0)), some (.int v72), none]) dX12_returns_52 (by decide) rfl (by decide) (fun _ => rfl) (fun v72 => ?_)
        refine ag_goto (tgt := 34) dX12_returns_55 (by decide) ?_
        exact ih68 v72 p71
set_option maxRecDepth 100000 in
set_option maxHeartbeats 4000000 in
theorem c_X12_takes {l : Launch} {D : va_G} {cy : Nat → ClassId} {bs : Nat} {V : HV} (o0 : Nat) (x1 : Int32) (ho0 : o0 < 1) {z : Int32 × HV} (hz : f_X12_takes o0 x1 V = some z) : CM l (aG 57 bs) D (tyL cy) (vwM cy bs) yX12_takes cX12_takes 5 (some .int) 1 23 tvI [.ref (bs + posM 10 o0), .int x1] V z := by
  refine cm_of vwM_D (by decide +kernel) (own := RX12) rfl (Nat.le_of_ble_eq_true rfl) (L := [some (.ref (bs + posM 10 o0)), some (.int x1), none, none, none]) rfl hz (fun Γ => ?_)
  unfold f_X12_takes
  refine ag_aload_n dX12_takes_0 rfl ?_
  refine gM_X12_heapAt ho0 fl_X12_222 dX12_takes_1 ?_
  refine ag_ltI (fun v1 => ?_)
  refine ag_istore_n (L' := [some (.ref (bs + posM 10 o0)), some (.int x1), some (.int v1), none, none]) dX12_takes_4 (by decide) rfl ?_
  refine ag_iconst (v := 0) dX12_takes_5 (by decide) ?_
  refine ag_istore_n (L' := [some (.ref (bs + posM 10 o0)), some (.int x1), some (.int v1), some (.int 0), none]) dX12_takes_6 (by decide) rfl ?_
  refine ag_jn2 (j := 47) (L1 := fun v4 v5 => [some (.ref (bs + posM 10 o0)), some (.int x1), some (.int v4), some (.int v5), none]) (st1 := fun v4 v5 => []) (ws1 := fun v4 v5 => vwM cy bs V) (fun v4 v5 => ?_) (fun k2 hk3 => ?_)
  · refine ag_iload_n dX12_takes_47 rfl ?_
    refine ag_aload_n dX12_takes_48 rfl ?_
    refine gM_X12_objects ho0 fl_X12_225 dX12_takes_49 ?_
    refine ag_jn0 (j := 67) (L1 := [some (.ref (bs + posM 10 o0)), some (.int x1), some (.int v4), some (.int v5), none]) (st1 := []) (ws1 := vwM cy bs V) (?_) (fun k6 hk7 => ?_)
    · refine ag_aload_n dX12_takes_67 rfl ?_
      refine gM_X12_objects ho0 fl_X12_225 dX12_takes_68 ?_
      refine ag_ltI (fun v8 => ?_)
      refine ag_istore (L' := [some (.ref (bs + posM 10 o0)), some (.int x1), some (.int v4), some (.int v5), some (.int v8)]) dX12_takes_71 (by decide) rfl ?_
      refine ag_jn1 (j := 149) (L1 := fun V11 => [some (.ref (bs + posM 10 o0)), some (.int x1), some (.int v4), some (.int v5), none]) (st1 := fun V11 => []) (ws1 := fun V11 => vwM cy bs V11) (fun V11 => ?_) (fun k9 hk10 => ?_)
      · refine ag_aload_n dX12_takes_149 rfl ?_
        refine ag_dup dX12_takes_150 rfl ?_
        refine gM_X12_objects ho0 fl_X12_225 dX12_takes_151 ?_
        refine ag_iconst (v := 1) dX12_takes_154 (by decide) ?_
        refine ag_iadd dX12_takes_155 ?_
        refine pM_X12_objects ho0 fl_X12_225 dX12_takes_156 ?_
        refine ag_ltV (fun V12 => ?_)
        refine ag_aload_n dX12_takes_159 rfl ?_
        refine gM_X12_objectAt ho0 fl_X12_121 dX12_takes_160 ?_
        refine ag_iload_n dX12_takes_163 rfl ?_
        refine ag_iload_n dX12_takes_164 rfl ?_
        refine ag_chk (fun h13 => ?_)
        refine sM_76 (by decide) h13 dX12_takes_165 ?_
        refine ag_ltV (fun V14 => ?_)
        refine ag_aload_n dX12_takes_166 rfl ?_
        refine gM_X12_objectSize ho0 fl_X12_124 dX12_takes_167 ?_
        refine ag_iload_n dX12_takes_170 rfl ?_
        refine ag_iload_n dX12_takes_171 rfl ?_
        refine ag_chk (fun h15 => ?_)
        refine sM_77 (by decide) h15 dX12_takes_172 ?_
        refine ag_ltV (fun V16 => ?_)
        refine ag_aload_n dX12_takes_173 rfl ?_
        refine gM_X12_isFreed ho0 fl_X12_127 dX12_takes_174 ?_
        refine ag_iload_n dX12_takes_177 rfl ?_
        refine ag_iconst (v := 0) dX12_takes_178 (by decide) ?_
        refine ag_chk (fun h17 => ?_)
        refine sM_78 (x := false) (by decide) h17 dX12_takes_179 ?_
        refine ag_ltV (fun V18 => ?_)
        refine ag_aload_n dX12_takes_180 rfl ?_
        refine gM_X12_isSwept ho0 fl_X12_130 dX12_takes_181 ?_
        refine ag_iload_n dX12_takes_184 rfl ?_
        refine ag_iconst (v := 0) dX12_takes_185 (by decide) ?_
        refine ag_chk (fun h19 => ?_)
        refine sM_79 (x := false) (by decide) h19 dX12_takes_186 ?_
        refine ag_ltV (fun V20 => ?_)
        refine ag_aload_n dX12_takes_187 rfl ?_
        refine ag_iload_n dX12_takes_188 rfl ?_
        refine ag_iload_n dX12_takes_189 rfl ?_
        refine ag_iload_n dX12_takes_190 rfl ?_
        refine ag_iadd dX12_takes_191 ?_
        refine ag_bnd (fun p21 hp21 => ?_)
        refine ag_ivVe (c_X12_wipe o0 v4 (v4 + x1) ho0 hp21) vwM_D (vwM_at (kpM_10 _ ho0)) rfl cs_X12_459 rfl rfl (Nat.le_of_ble_eq_true rfl) ⟨by decide, by decide⟩ ⟨Nat.zero_le _, Nat.zero_le _⟩ dX12_takes_192 ?_
        refine ag_iload_n dX12_takes_195 rfl ?_
        exact ag_irep dX12_takes_196
      · refine ag_loop2 (F := f_X12_takes_L73 v5 k9) (L1 := fun v22 V23 => [some (.ref (bs + posM 10 o0)), some (.int x1), some (.int v4), some (.int v5), some (.int v22)]) (st1 := fun v22 V23 => []) (ws1 := fun v22 V23 => vwM cy bs V23) (fun n24 ih25 v22 V23 => ?_) (fun _ _ => rfl) FU v8 V
        rw [f_X12_takes_L73]
        refine ag_iload dX12_takes_73 rfl ?_
        refine ag_iload_n dX12_takes_75 rfl ?_
        refine ag_icmp_le (tgt := 149) dX12_takes_76 (by decide) (fun h26 => ?_) (fun h26 => ?_)
        · refine ag_drop [4] (L' := [some (.ref (bs + posM 10 o0)), some (.int x1), some (.int v4), some (.int v5), none]) rfl ?_
          exact hk10 V23
        · refine ag_aload_n dX12_takes_79 rfl ?_
          refine gM_X12_objectAt ho0 fl_X12_121 dX12_takes_80 ?_
          refine ag_iload dX12_takes_83 rfl ?_
          refine ag_aload_n dX12_takes_85 rfl ?_
          refine gM_X12_objectAt ho0 fl_X12_121 dX12_takes_86 ?_
          refine ag_iload dX12_takes_89 rfl ?_
          refine ag_iconst (v := 1) dX12_takes_91 (by decide) ?_
          refine ag_isub dX12_takes_92 ?_
          refine ag_chk (fun h27 => ?_)
          refine aM_76 (by decide) h27 dX12_takes_93 ?_
          refine ag_chk (fun h28 => ?_)
          refine sM_76 (by decide) h28 dX12_takes_94 ?_
          refine ag_ltV (fun V29 => ?_)
          refine ag_aload_n dX12_takes_95 rfl ?_
          refine gM_X12_objectSize ho0 fl_X12_124 dX12_takes_96 ?_
          refine ag_iload dX12_takes_99 rfl ?_
          refine ag_aload_n dX12_takes_101 rfl ?_
          refine gM_X12_objectSize ho0 fl_X12_124 dX12_takes_102 ?_
          refine ag_iload dX12_takes_105 rfl ?_
          refine ag_iconst (v := 1) dX12_takes_107 (by decide) ?_
          refine ag_isub dX12_takes_108 ?_
          refine ag_chk (fun h30 => ?_)
          refine aM_77 (by decide) h30 dX12_takes_109 ?_
          refine ag_chk (fun h31 => ?_)
          refine sM_77 (by decide) h31 dX12_takes_110 ?_
          refine ag_ltV (fun V32 => ?_)
          refine ag_aload_n dX12_takes_111 rfl ?_
          refine gM_X12_isFreed ho0 fl_X12_127 dX12_takes_112 ?_
          refine ag_iload dX12_takes_115 rfl ?_
          refine ag_aload_n dX12_takes_117 rfl ?_
          refine gM_X12_isFreed ho0 fl_X12_127 dX12_takes_118 ?_
          refine ag_iload dX12_takes_121 rfl ?_
          refine ag_iconst (v := 1) dX12_takes_123 (by decide) ?_
          refine ag_isub dX12_takes_124 ?_
          refine ag_chk (fun h33 => ?_)
          refine aM_78 (by decide) h33 dX12_takes_125 ?_
          refine ag_chk (fun h34 => ?_)
          refine sM_78 (x := (i2b (V32 7800 0 (v22 - 1).toNatClampNeg))) (by decide) h34 dX12_takes_126 ?_
          refine ag_ltV (fun V35 => ?_)
          refine ag_aload_n dX12_takes_127 rfl ?_
          refine gM_X12_isSwept ho0 fl_X12_130 dX12_takes_128 ?_
          refine ag_iload dX12_takes_131 rfl ?_
          refine ag_aload_n dX12_takes_133 rfl ?_
          refine gM_X12_isSwept ho0 fl_X12_130 dX12_takes_134 ?_
          refine ag_iload dX12_takes_137 rfl ?_
          refine ag_iconst (v := 1) dX12_takes_139 (by decide) ?_
          refine ag_isub dX12_takes_140 ?_
          refine ag_chk (fun h36 => ?_)
          refine aM_79 (by decide) h36 dX12_takes_141 ?_
          refine ag_chk (fun h37 => ?_)
          refine sM_79 (x := (i2b (V35 7900 0 (v22 - 1).toNatClampNeg))) (by decide) h37 dX12_takes_142 ?_
          refine ag_ltV (fun V38 => ?_)
          refine ag_iincL (L' := fun v39 => [some (.ref (bs + posM 10 o0)), some (.int x1), some (.int v4), some (.int v5), some (.int v39)]) dX12_takes_143 (by decide) rfl (by decide) (fun _ => rfl) (fun v39 => ?_)
          refine ag_goto (tgt := 73) dX12_takes_146 (by decide) ?_
          exact ih25 v39 V38
    · refine ag_icmp_ne (tgt := 67) dX12_takes_52 (by decide) (fun h40 => ?_) (fun h40 => ?_)
      · exact hk7
      · refine ag_aload_n dX12_takes_55 rfl ?_
        refine gM_X12_size ho0 fl_X12_175 dX12_takes_56 ?_
        refine ag_iload_n dX12_takes_59 rfl ?_
        refine ag_isub dX12_takes_60 ?_
        refine ag_iload_n dX12_takes_61 rfl ?_
        refine ag_icmp_ge (tgt := 67) dX12_takes_62 (by decide) (fun h41 => ?_) (fun h41 => ?_)
        · exact hk7
        · refine ag_iconst (v := (-1)) dX12_takes_65 (by decide) ?_
          exact ag_irep dX12_takes_66
  · refine ag_loop2 (F := f_X12_takes_L7 o0 x1 V k2) (L1 := fun v42 v43 => [some (.ref (bs + posM 10 o0)), some (.int x1), some (.int v42), some (.int v43), none]) (st1 := fun v42 v43 => []) (ws1 := fun v42 v43 => vwM cy bs V) (fun n44 ih45 v42 v43 => ?_) (fun _ _ => rfl) FU v1 0
    rw [f_X12_takes_L7]
    refine ag_iload_n dX12_takes_7 rfl ?_
    refine ag_aload_n dX12_takes_8 rfl ?_
    refine gM_X12_objects ho0 fl_X12_225 dX12_takes_9 ?_
    refine ag_icmp_ge (tgt := 47) dX12_takes_12 (by decide) (fun h46 => ?_) (fun h46 => ?_)
    · exact hk3 v42 v43
    · refine ag_aload_n dX12_takes_15 rfl ?_
      refine gM_X12_objectAt ho0 fl_X12_121 dX12_takes_16 ?_
      refine ag_iload_n dX12_takes_19 rfl ?_
      refine ag_chk (fun h47 => ?_)
      refine aM_76 (by decide) h47 dX12_takes_20 ?_
      refine ag_iload_n dX12_takes_21 rfl ?_
      refine ag_isub dX12_takes_22 ?_
      refine ag_iload_n dX12_takes_23 rfl ?_
      refine ag_icmp_ge (tgt := 47) dX12_takes_24 (by decide) (fun h48 => ?_) (fun h48 => ?_)
      · exact hk3 v42 v43
      · refine ag_aload_n dX12_takes_27 rfl ?_
        refine gM_X12_objectAt ho0 fl_X12_121 dX12_takes_28 ?_
        refine ag_iload_n dX12_takes_31 rfl ?_
        refine ag_chk (fun h49 => ?_)
        refine aM_76 (by decide) h49 dX12_takes_32 ?_
        refine ag_aload_n dX12_takes_33 rfl ?_
        refine gM_X12_objectSize ho0 fl_X12_124 dX12_takes_34 ?_
        refine ag_iload_n dX12_takes_37 rfl ?_
        refine ag_chk (fun h50 => ?_)
        refine aM_77 (by decide) h50 dX12_takes_38 ?_
        refine ag_iadd dX12_takes_39 ?_
        refine ag_ltI (fun v51 => ?_)
        refine ag_istore_n (L' := [some (.ref (bs + posM 10 o0)), some (.int x1), some (.int v51), some (.int v43), none]) dX12_takes_40 (by decide) rfl ?_
        refine ag_iincL (L' := fun v52 => [some (.ref (bs + posM 10 o0)), some (.int x1), some (.int v51), some (.int v52), none]) dX12_takes_41 (by decide) rfl (by decide) (fun _ => rfl) (fun v52 => ?_)
        refine ag_goto (tgt := 7) dX12_takes_44 (by decide) ?_
        exact ih45 v51 v52
set_option maxRecDepth 100000 in
set_option maxHeartbeats 4000000 in
theorem c_X12_gets {l : Launch} {D : va_G} {cy : Nat → ClassId} {bs : Nat} {V : HV} (o0 : Nat) (x1 : Int32) (x2 : Int32) (ho0 : o0 < 1) {z : Bool × HV} (hz : f_X12_gets o0 x1 x2 V = some z) : CM l (aG 57 bs) D (tyL cy) (vwM cy bs) yX12_gets cX12_gets 4 (some .boolean) 2 47 tvZ [.ref (bs + posM 10 o0), .int x1, .int x2] V z := by
  refine cm_of vwM_D (by decide +kernel) (own := RX12) rfl (Nat.le_of_ble_eq_true rfl) (L := [some (.ref (bs + posM 10 o0)), some (.int x1), some (.int x2), none]) rfl hz (fun Γ => ?_)
  unfold f_X12_gets
  refine ag_aload_n dX12_gets_0 rfl ?_
  refine ag_iload_n dX12_gets_1 rfl ?_
  refine ag_bnd (fun p1 hp1 => ?_)
  refine ag_ivIe (c_X12_takes o0 x2 ho0 hp1) vwM_D (vwM_at (kpM_10 _ ho0)) rfl cs_X12_494 rfl rfl (Nat.le_of_ble_eq_true rfl) ⟨by decide, by decide⟩ ⟨Nat.zero_le _, Nat.zero_le _⟩ dX12_gets_2 ?_
  refine ag_ltI (fun v2 => ?_)
  refine ag_istore_n (L' := [some (.ref (bs + posM 10 o0)), some (.int x1), some (.int x2), some (.int v2)]) dX12_gets_5 (by decide) rfl ?_
  refine ag_iload_n dX12_gets_6 rfl ?_
  refine ag_iconst (v := (-1)) dX12_gets_7 (by decide) ?_
  refine ag_icmp_ne (tgt := 13) dX12_gets_8 (by decide) (fun h3 => ?_) (fun h3 => ?_)
  · refine ag_aload_n dX12_gets_13 rfl ?_
    refine ag_iload_n dX12_gets_14 rfl ?_
    refine ag_bipush (v := 10) dX12_gets_15 (by decide) ?_
    refine ag_isIp (c_X12_reg x1 10  rfl) vwM_D cs_X12_307 rfl rfl (Nat.le_of_ble_eq_true rfl) ⟨by decide, by decide⟩ ⟨Nat.zero_le _, Nat.zero_le _⟩ dX12_gets_17 ?_
    refine ag_ltI (fun v4 => ?_)
    refine ag_iload_n dX12_gets_20 rfl ?_
    refine ag_iload_n dX12_gets_21 rfl ?_
    refine ag_iload_n dX12_gets_22 rfl ?_
    refine ag_iload_n dX12_gets_23 rfl ?_
    refine ag_iadd dX12_gets_24 ?_
    refine ag_bipush (v := 91) dX12_gets_25 (by decide) ?_
    refine ag_iconst (v := 0) dX12_gets_27 (by decide) ?_
    refine ag_iconst (v := 1) dX12_gets_28 (by decide) ?_
    refine ag_bnd (fun p5 hp5 => ?_)
    refine ag_ivVe (c_X12_make o0 v4 v2 v2 (v2 + x2) 91 0 true ho0 hp5) vwM_D (vwM_at (kpM_10 _ ho0)) rfl cs_X12_250 rfl rfl (Nat.le_of_ble_eq_true rfl) ⟨by decide, by decide⟩ ⟨Nat.zero_le _, Nat.zero_le _⟩ dX12_gets_29 ?_
    refine ag_iconst (v := 1) dX12_gets_32 (by decide) ?_
    exact ag_zrep (x := true) dX12_gets_33
  · refine ag_iconst (v := 0) dX12_gets_11 (by decide) ?_
    exact ag_zrep (x := false) dX12_gets_12
set_option maxRecDepth 100000 in
set_option maxHeartbeats 4000000 in
theorem c_X12_anyFreed {l : Launch} {D : va_G} {cy : Nat → ClassId} {bs : Nat} {V : HV} (o0 : Nat) (ho0 : o0 < 1) {z : Bool} (hz : f_X12_anyFreed o0 V = some z) : CM l (aG 57 bs) D (tyL cy) (vwM cy bs) yX12_anyFreed cX12_anyFreed 3 (some .boolean) 0 0 tvZ [.ref (bs + posM 10 o0)] V (z, V) := by
  refine cm_of vwM_D (by decide +kernel) (own := RX12) rfl (Nat.le_of_ble_eq_true rfl) (L := [some (.ref (bs + posM 10 o0)), none, none]) rfl hz (fun Γ => ?_)
  unfold f_X12_anyFreed
  refine ag_iconst (v := 0) dX12_anyFreed_0 (by decide) ?_
  refine ag_istore_n (L' := [some (.ref (bs + posM 10 o0)), some (.int 0), none]) dX12_anyFreed_1 (by decide) rfl ?_
  refine ag_iconst (v := 0) dX12_anyFreed_2 (by decide) ?_
  refine ag_istore_n (L' := [some (.ref (bs + posM 10 o0)), some (.int 0), some (.int 0)]) dX12_anyFreed_3 (by decide) rfl ?_
  refine ag_jn1 (j := 37) (L1 := fun v3 => [some (.ref (bs + posM 10 o0)), some (.int (b2i v3)), none]) (st1 := fun v3 => []) (ws1 := fun v3 => vwM cy bs V) (fun v3 => ?_) (fun k1 hk2 => ?_)
  · refine ag_iload_n dX12_anyFreed_37 rfl ?_
    exact ag_zrpp (x := v3) dX12_anyFreed_38
  · refine ag_loop2 (F := f_X12_anyFreed_L4 o0 V k1) (L1 := fun v4 v5 => [some (.ref (bs + posM 10 o0)), some (.int (b2i v4)), some (.int v5)]) (st1 := fun v4 v5 => []) (ws1 := fun v4 v5 => vwM cy bs V) (fun n6 ih7 v4 v5 => ?_) (fun _ _ => rfl) FU false 0
    rw [f_X12_anyFreed_L4]
    refine ag_iload_n dX12_anyFreed_4 rfl ?_
    refine ag_aload_n dX12_anyFreed_5 rfl ?_
    refine gM_X12_objects ho0 fl_X12_225 dX12_anyFreed_6 ?_
    refine ag_icmp_ge (tgt := 37) dX12_anyFreed_9 (by decide) (fun h8 => ?_) (fun h8 => ?_)
    · refine ag_drop [2] (L' := [some (.ref (bs + posM 10 o0)), some (.int (b2i v4)), none]) rfl ?_
      exact hk2 v4
    · refine ag_iload_n dX12_anyFreed_12 rfl ?_
      refine ag_jn1 (j := 30) (L1 := fun v9 => [some (.ref (bs + posM 10 o0)), some (.int (b2i v4)), some (.int v5)]) (st1 := fun v9 => [.int (b2i v9)]) (ws1 := fun v9 => vwM cy bs V) (fun v9 => ?_) (fun k10 hk11 => ?_)
      · refine ag_istore_n (L' := [some (.ref (bs + posM 10 o0)), some (.int (b2i v9)), some (.int v5)]) dX12_anyFreed_30 (by decide) rfl ?_
        refine ag_iincL (L' := fun v12 => [some (.ref (bs + posM 10 o0)), some (.int (b2i v9)), some (.int v12)]) dX12_anyFreed_31 (by decide) rfl (by decide) (fun _ => rfl) (fun v12 => ?_)
        refine ag_goto (tgt := 4) dX12_anyFreed_34 (by decide) ?_
        exact ih7 v9 v12
      · refine ag_jn0 (j := 25) (L1 := [some (.ref (bs + posM 10 o0)), some (.int (b2i v4)), some (.int v5)]) (st1 := []) (ws1 := vwM cy bs V) (?_) (fun k13 hk14 => ?_)
        · refine ag_iconst (v := 1) dX12_anyFreed_25 (by decide) ?_
          refine ag_goto (tgt := 30) dX12_anyFreed_26 (by decide) ?_
          exact hk11 true
        · refine ag_bif_ne (tgt := 25) dX12_anyFreed_13 (by decide) (fun h15 => ?_) (fun h15 => ?_)
          · exact hk14
          · refine ag_aload_n dX12_anyFreed_16 rfl ?_
            refine gM_X12_isFreed ho0 fl_X12_127 dX12_anyFreed_17 ?_
            refine ag_iload_n dX12_anyFreed_20 rfl ?_
            refine ag_chk (fun h16 => ?_)
            refine aM_78 (by decide) h16 dX12_anyFreed_21 ?_
            refine ag_bif_eq (tgt := 29) dX12_anyFreed_22 (by decide) (fun h17 => ?_) (fun h17 => ?_)
            · refine ag_iconst (v := 0) dX12_anyFreed_29 (by decide) ?_
              exact hk11 false
            · exact hk14
