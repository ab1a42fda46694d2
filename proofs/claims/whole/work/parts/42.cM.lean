set_option maxRecDepth 100000 in
set_option maxHeartbeats 4000000 in
theorem c_X12_fill {l : Launch} {D : va_G} {cy : Nat → ClassId} {bs : Nat} {V : HV} (o0 : Nat) (x1 : Int32) (ho0 : o0 < 1) {z : HV} (hz : f_X12_fill o0 x1 V = some z) : CM l (aG 57 bs) D (tyL cy) (vwM cy bs) yX12_fill cX12_fill 5 none 2 47 tvV [.ref (bs + posM 10 o0), .int x1] V ((), z) := by
  refine cm_of vwM_D (by decide +kernel) (own := RX12) rfl (Nat.le_of_ble_eq_true rfl) (L := [some (.ref (bs + posM 10 o0)), some (.int x1), none, none, none]) rfl hz (fun Γ => ?_)
  unfold f_X12_fill
  refine ag_iconst (v := 0) dX12_fill_0 (by decide) ?_
  refine ag_istore_n (L' := [some (.ref (bs + posM 10 o0)), some (.int x1), some (.int 0), none, none]) dX12_fill_1 (by decide) rfl ?_
  refine ag_jn1 (j := 46) (L1 := fun V3 => [some (.ref (bs + posM 10 o0)), some (.int x1), none, none, none]) (st1 := fun V3 => []) (ws1 := fun V3 => vwM cy bs V3) (fun V3 => ?_) (fun k1 hk2 => ?_)
  · refine ag_iconst (v := 0) dX12_fill_46 (by decide) ?_
    refine ag_istore_n (L' := [some (.ref (bs + posM 10 o0)), some (.int x1), some (.int 0), none, none]) dX12_fill_47 (by decide) rfl ?_
    refine ag_jn1 (j := 276) (L1 := fun V6 => [some (.ref (bs + posM 10 o0)), some (.int x1), none, none, none]) (st1 := fun V6 => []) (ws1 := fun V6 => vwM cy bs V6) (fun V6 => ?_) (fun k4 hk5 => ?_)
    · exact ag_vrep dX12_fill_276
    · refine ag_loop2 (F := f_X12_fill_L48 o0 x1 k4) (L1 := fun v7 V8 => [some (.ref (bs + posM 10 o0)), some (.int x1), some (.int v7), none, none]) (st1 := fun v7 V8 => []) (ws1 := fun v7 V8 => vwM cy bs V8) (fun n9 ih10 v7 V8 => ?_) (fun _ _ => rfl) FU 0 V3
      rw [f_X12_fill_L48]
      refine ag_iload_n dX12_fill_48 rfl ?_
      refine ag_aload_n dX12_fill_49 rfl ?_
      refine gM_X12_imports ho0 fl_X12_145 dX12_fill_50 ?_
      refine ag_iload_n dX12_fill_53 rfl ?_
      refine ag_chk (fun h11 => ?_)
      refine aM_90 (by decide) h11 dX12_fill_54 ?_
      refine ag_icmp_ge (tgt := 276) dX12_fill_55 (by decide) (fun h12 => ?_) (fun h12 => ?_)
      · refine ag_drop [2] (L' := [some (.ref (bs + posM 10 o0)), some (.int x1), none, none, none]) rfl ?_
        exact hk5 V8
      · refine ag_aload_n dX12_fill_58 rfl ?_
        refine gM_X12_importX ho0 fl_X12_151 dX12_fill_59 ?_
        refine ag_bipush (v := 16) dX12_fill_62 (by decide) ?_
        refine ag_iload_n dX12_fill_64 rfl ?_
        refine ag_imul dX12_fill_65 ?_
        refine ag_iload_n dX12_fill_66 rfl ?_
        refine ag_iadd dX12_fill_67 ?_
        refine ag_chk (fun h13 => ?_)
        refine aM_92 (by decide) h13 dX12_fill_68 ?_
        refine ag_ltI (fun v14 => ?_)
        refine ag_istore_n (L' := [some (.ref (bs + posM 10 o0)), some (.int x1), some (.int v7), some (.int v14), none]) dX12_fill_69 (by decide) rfl ?_
        refine ag_aload_n dX12_fill_70 rfl ?_
        refine gM_X12_importY ho0 fl_X12_154 dX12_fill_71 ?_
        refine ag_bipush (v := 16) dX12_fill_74 (by decide) ?_
        refine ag_iload_n dX12_fill_76 rfl ?_
        refine ag_imul dX12_fill_77 ?_
        refine ag_iload_n dX12_fill_78 rfl ?_
        refine ag_iadd dX12_fill_79 ?_
        refine ag_chk (fun h15 => ?_)
        refine aM_93 (by decide) h15 dX12_fill_80 ?_
        refine ag_ltI (fun v16 => ?_)
        refine ag_istore (L' := [some (.ref (bs + posM 10 o0)), some (.int x1), some (.int v7), some (.int v14), some (.int v16)]) dX12_fill_81 (by decide) rfl ?_
        refine ag_aload_n dX12_fill_83 rfl ?_
        refine gM_X12_importKind ho0 fl_X12_148 dX12_fill_84 ?_
        refine ag_bipush (v := 16) dX12_fill_87 (by decide) ?_
        refine ag_iload_n dX12_fill_89 rfl ?_
        refine ag_imul dX12_fill_90 ?_
        refine ag_iload_n dX12_fill_91 rfl ?_
        refine ag_iadd dX12_fill_92 ?_
        refine ag_chk (fun h17 => ?_)
        refine aM_91 (by decide) h17 dX12_fill_93 ?_
        refine ag_jn1 (j := 251) (L1 := fun V18 => [some (.ref (bs + posM 10 o0)), some (.int x1), some (.int v7), some (.int v14), some (.int v16)]) (st1 := fun V18 => []) (ws1 := fun V18 => vwM cy bs V18) (fun V18 => ?_) (fun k19 hk20 => ?_)
        · refine ag_aload_n dX12_fill_251 rfl ?_
          refine ag_aload_n dX12_fill_252 rfl ?_
          refine gM_X12_importsAt ho0 fl_X12_43 dX12_fill_253 ?_
          refine ag_iload_n dX12_fill_256 rfl ?_
          refine ag_chk (fun h21 => ?_)
          refine aM_41 (by decide) h21 dX12_fill_257 ?_
          refine ag_bipush (v := 16) dX12_fill_258 (by decide) ?_
          refine ag_iload_n dX12_fill_260 rfl ?_
          refine ag_imul dX12_fill_261 ?_
          refine ag_iadd dX12_fill_262 ?_
          refine ag_sipush (v := 582) dX12_fill_263 (by decide) ?_
          refine ag_iconst (v := 1) dX12_fill_266 (by decide) ?_
          refine ag_bnd (fun p22 hp22 => ?_)
          refine ag_ivVe (c_X12_putCapability o0 ((V18 4100 0 (x1).toNatClampNeg) + (16 * v7)) 582 true ho0 hp22) vwM_D (vwM_at (kpM_10 _ ho0)) rfl cs_X12_303 rfl rfl (Nat.le_of_ble_eq_true rfl) ⟨by decide, by decide⟩ ⟨Nat.zero_le _, Nat.zero_le _⟩ dX12_fill_267 ?_
          refine ag_iincL (L' := fun v23 => [some (.ref (bs + posM 10 o0)), some (.int x1), some (.int v23), some (.int v14), some (.int v16)]) dX12_fill_270 (by decide) rfl (by decide) (fun _ => rfl) (fun v23 => ?_)
          refine ag_goto (tgt := 48) dX12_fill_273 (by decide) ?_
          refine ag_drop [3, 4] (L' := [some (.ref (bs + posM 10 o0)), some (.int x1), some (.int v23), none, none]) rfl ?_
          exact ih10 v23 p22
        · refine ag_if (fun h24 => ?_) (fun h24 => ?_)
          · refine ag_tab (off := 30) (tgt := 124) h24 dX12_fill_94 (by decide) (by decide) (by decide) (by decide) ?_
            refine ag_aload_n dX12_fill_124 rfl ?_
            refine ag_sipush (v := 582) dX12_fill_125 (by decide) ?_
            refine ag_bipush (v := 16) dX12_fill_128 (by decide) ?_
            refine ag_iload_n dX12_fill_130 rfl ?_
            refine ag_imul dX12_fill_131 ?_
            refine ag_iload dX12_fill_132 rfl ?_
            refine ag_iadd dX12_fill_134 ?_
            refine ag_iconst (v := 0) dX12_fill_135 (by decide) ?_
            refine ag_iconst (v := 0) dX12_fill_136 (by decide) ?_
            refine ag_bipush (v := 64) dX12_fill_137 (by decide) ?_
            refine ag_iconst (v := 4) dX12_fill_139 (by decide) ?_
            refine ag_iconst (v := 1) dX12_fill_140 (by decide) ?_
            refine ag_bnd (fun p25 hp25 => ?_)
            refine ag_ivVe (c_X12_make o0 582 ((16 * v14) + v16) 0 0 64 4 true ho0 hp25) vwM_D (vwM_at (kpM_10 _ ho0)) rfl cs_X12_250 rfl rfl (Nat.le_of_ble_eq_true rfl) ⟨by decide, by decide⟩ ⟨Nat.zero_le _, Nat.zero_le _⟩ dX12_fill_141 ?_
            refine ag_goto (tgt := 251) dX12_fill_144 (by decide) ?_
            exact hk20 p25
          · refine ag_if (fun h26 => ?_) (fun h26 => ?_)
            · refine ag_tab (off := 53) (tgt := 147) h26 dX12_fill_94 (by decide) (by decide) (by decide) (by decide) ?_
              refine ag_aload_n dX12_fill_147 rfl ?_
              refine ag_sipush (v := 582) dX12_fill_148 (by decide) ?_
              refine ag_iload_n dX12_fill_151 rfl ?_
              refine ag_iconst (v := 0) dX12_fill_152 (by decide) ?_
              refine ag_iconst (v := 0) dX12_fill_153 (by decide) ?_
              refine ag_bipush (v := 64) dX12_fill_154 (by decide) ?_
              refine ag_bipush (v := 6) dX12_fill_156 (by decide) ?_
              refine ag_iconst (v := 1) dX12_fill_158 (by decide) ?_
              refine ag_bnd (fun p27 hp27 => ?_)
              refine ag_ivVe (c_X12_make o0 582 v14 0 0 64 6 true ho0 hp27) vwM_D (vwM_at (kpM_10 _ ho0)) rfl cs_X12_250 rfl rfl (Nat.le_of_ble_eq_true rfl) ⟨by decide, by decide⟩ ⟨Nat.zero_le _, Nat.zero_le _⟩ dX12_fill_159 ?_
              refine ag_goto (tgt := 251) dX12_fill_162 (by decide) ?_
              exact hk20 p27
            · refine ag_if (fun h28 => ?_) (fun h28 => ?_)
              · refine ag_tab (off := 71) (tgt := 165) h28 dX12_fill_94 (by decide) (by decide) (by decide) (by decide) ?_
                refine ag_aload_n dX12_fill_165 rfl ?_
                refine ag_sipush (v := 582) dX12_fill_166 (by decide) ?_
                refine ag_ldcw kc_X12_301 dX12_fill_169 ?_
                refine ag_ldcw kc_X12_301 dX12_fill_172 ?_
                refine ag_ldcw kc_X12_302 dX12_fill_175 ?_
                refine ag_iload_n dX12_fill_178 rfl ?_
                refine ag_bipush (v := 64) dX12_fill_179 (by decide) ?_
                refine ag_ior dX12_fill_181 ?_
                refine ag_iconst (v := 0) dX12_fill_182 (by decide) ?_
                refine ag_iconst (v := 1) dX12_fill_183 (by decide) ?_
                refine ag_bnd (fun p29 hp29 => ?_)
                refine ag_ivVe (c_X12_make o0 582 268435456 268435456 268435472 (v14 ||| 64) 0 true ho0 hp29) vwM_D (vwM_at (kpM_10 _ ho0)) rfl cs_X12_250 rfl rfl (Nat.le_of_ble_eq_true rfl) ⟨by decide, by decide⟩ ⟨Nat.zero_le _, Nat.zero_le _⟩ dX12_fill_184 ?_
                refine ag_goto (tgt := 251) dX12_fill_187 (by decide) ?_
                exact hk20 p29
              · refine ag_if (fun h30 => ?_) (fun h30 => ?_)
                · refine ag_tab (off := 96) (tgt := 190) h30 dX12_fill_94 (by decide) (by decide) (by decide) (by decide) ?_
                  refine ag_aload_n dX12_fill_190 rfl ?_
                  refine ag_sipush (v := 582) dX12_fill_191 (by decide) ?_
                  refine ag_bipush (v := 8) dX12_fill_194 (by decide) ?_
                  refine ag_iload_n dX12_fill_196 rfl ?_
                  refine ag_iadd dX12_fill_197 ?_
                  refine ag_bipush (v := 8) dX12_fill_198 (by decide) ?_
                  refine ag_iload_n dX12_fill_200 rfl ?_
                  refine ag_iadd dX12_fill_201 ?_
                  refine ag_bipush (v := 8) dX12_fill_202 (by decide) ?_
                  refine ag_iload_n dX12_fill_204 rfl ?_
                  refine ag_iadd dX12_fill_205 ?_
                  refine ag_iload dX12_fill_206 rfl ?_
                  refine ag_iadd dX12_fill_208 ?_
                  refine ag_bipush (v := 96) dX12_fill_209 (by decide) ?_
                  refine ag_iconst (v := 0) dX12_fill_211 (by decide) ?_
                  refine ag_iconst (v := 1) dX12_fill_212 (by decide) ?_
                  refine ag_bnd (fun p31 hp31 => ?_)
                  refine ag_ivVe (c_X12_make o0 582 (8 + v14) (8 + v14) ((8 + v14) + v16) 96 0 true ho0 hp31) vwM_D (vwM_at (kpM_10 _ ho0)) rfl cs_X12_250 rfl rfl (Nat.le_of_ble_eq_true rfl) ⟨by decide, by decide⟩ ⟨Nat.zero_le _, Nat.zero_le _⟩ dX12_fill_213 ?_
                  refine ag_goto (tgt := 251) dX12_fill_216 (by decide) ?_
                  exact hk20 p31
                · refine ag_tabD (tgt := 219) dX12_fill_94 (by have z0 := lv_neT h24 (k := 0) (a := 0) (by decide); have z1 := lv_neT h26 (k := 1) (a := 1) (by decide); have z2 := lv_neT h28 (k := 2) (a := 2) (by decide); have z3 := lv_neT h30 (k := 3) (a := 3) (by decide); omega) (by decide) ?_
                  refine ag_aload_n dX12_fill_219 rfl ?_
                  refine ag_sipush (v := 582) dX12_fill_220 (by decide) ?_
                  refine ag_aload_n dX12_fill_223 rfl ?_
                  refine gM_X12_globalsAt ho0 fl_X12_46 dX12_fill_224 ?_
                  refine ag_iload_n dX12_fill_227 rfl ?_
                  refine ag_chk (fun h32 => ?_)
                  refine aM_42 (by decide) h32 dX12_fill_228 ?_
                  refine ag_aload_n dX12_fill_229 rfl ?_
                  refine gM_X12_globalsAt ho0 fl_X12_46 dX12_fill_230 ?_
                  refine ag_iload_n dX12_fill_233 rfl ?_
                  refine ag_chk (fun h33 => ?_)
                  refine aM_42 (by decide) h33 dX12_fill_234 ?_
                  refine ag_aload_n dX12_fill_235 rfl ?_
                  refine gM_X12_endAt ho0 fl_X12_49 dX12_fill_236 ?_
                  refine ag_iload_n dX12_fill_239 rfl ?_
                  refine ag_chk (fun h34 => ?_)
                  refine aM_43 (by decide) h34 dX12_fill_240 ?_
                  refine ag_iload dX12_fill_241 rfl ?_
                  refine ag_bipush (v := 64) dX12_fill_243 (by decide) ?_
                  refine ag_ior dX12_fill_245 ?_
                  refine ag_iconst (v := 0) dX12_fill_246 (by decide) ?_
                  refine ag_iconst (v := 1) dX12_fill_247 (by decide) ?_
                  refine ag_bnd (fun p35 hp35 => ?_)
                  refine ag_ivVe (c_X12_make o0 582 (V8 4200 0 (v14).toNatClampNeg) (V8 4200 0 (v14).toNatClampNeg) (V8 4300 0 (v14).toNatClampNeg) (v16 ||| 64) 0 true ho0 hp35) vwM_D (vwM_at (kpM_10 _ ho0)) rfl cs_X12_250 rfl rfl (Nat.le_of_ble_eq_true rfl) ⟨by decide, by decide⟩ ⟨Nat.zero_le _, Nat.zero_le _⟩ dX12_fill_248 ?_
                  exact hk20 p35
  · refine ag_loop2 (F := f_X12_fill_L2 x1 k1) (L1 := fun v37 V38 => [some (.ref (bs + posM 10 o0)), some (.int x1), some (.int v37), none, none]) (st1 := fun v37 V38 => []) (ws1 := fun v37 V38 => vwM cy bs V38) (fun n39 ih40 v37 V38 => ?_) (fun _ _ => rfl) FU 0 V
    rw [f_X12_fill_L2]
    refine ag_iload_n dX12_fill_2 rfl ?_
    refine ag_iconst (v := 4) dX12_fill_3 (by decide) ?_
    refine ag_aload_n dX12_fill_4 rfl ?_
    refine gM_X12_words ho0 fl_X12_139 dX12_fill_5 ?_
    refine ag_iload_n dX12_fill_8 rfl ?_
    refine ag_chk (fun h41 => ?_)
    refine aM_88 (by decide) h41 dX12_fill_9 ?_
    refine ag_imul dX12_fill_10 ?_
    refine ag_icmp_ge (tgt := 46) dX12_fill_11 (by decide) (fun h42 => ?_) (fun h42 => ?_)
    · refine ag_drop [2] (L' := [some (.ref (bs + posM 10 o0)), some (.int x1), none, none, none]) rfl ?_
      exact hk2 V38
    · refine ag_aload_n dX12_fill_14 rfl ?_
      refine gM_X12_memory ho0 fl_X12_179 dX12_fill_15 ?_
      refine ag_aload_n dX12_fill_18 rfl ?_
      refine gM_X12_codeAt ho0 fl_X12_40 dX12_fill_19 ?_
      refine ag_iload_n dX12_fill_22 rfl ?_
      refine ag_chk (fun h43 => ?_)
      refine aM_40 (by decide) h43 dX12_fill_23 ?_
      refine ag_iload_n dX12_fill_24 rfl ?_
      refine ag_iadd dX12_fill_25 ?_
      refine ag_aload_n dX12_fill_26 rfl ?_
      refine gM_X12_image ho0 fl_X12_33 dX12_fill_27 ?_
      refine ag_aload_n dX12_fill_30 rfl ?_
      refine gM_X12_codePlace ho0 fl_X12_160 dX12_fill_31 ?_
      refine ag_iload_n dX12_fill_34 rfl ?_
      refine ag_chk (fun h44 => ?_)
      refine aM_95 (by decide) h44 dX12_fill_35 ?_
      refine ag_iload_n dX12_fill_36 rfl ?_
      refine ag_iadd dX12_fill_37 ?_
      refine ag_chk (fun h45 => ?_)
      refine aM_32 (by decide) h45 dX12_fill_38 ?_
      refine ag_chk (fun h46 => ?_)
      refine sM_21 (by decide) h46 dX12_fill_39 ?_
      refine ag_ltV (fun V47 => ?_)
      refine ag_iincL (L' := fun v48 => [some (.ref (bs + posM 10 o0)), some (.int x1), some (.int v48), none, none]) dX12_fill_40 (by decide) rfl (by decide) (fun _ => rfl) (fun v48 => ?_)
      refine ag_goto (tgt := 2) dX12_fill_43 (by decide) ?_
      exact ih40 v48 V47
set_option maxRecDepth 100000 in
set_option maxHeartbeats 4000000 in
theorem c_X12_starts {l : Launch} {D : va_G} {cy : Nat → ClassId} {bs : Nat} {V : HV} (o0 : Nat) (x1 : Int32) (ho0 : o0 < 1) {z : HV} (hz : f_X12_starts o0 x1 V = some z) : CM l (aG 57 bs) D (tyL cy) (vwM cy bs) yX12_starts cX12_starts 4 none 2 50 tvV [.ref (bs + posM 10 o0), .int x1] V ((), z) := by
  refine cm_of vwM_D (by decide +kernel) (own := RX12) rfl (Nat.le_of_ble_eq_true rfl) (L := [some (.ref (bs + posM 10 o0)), some (.int x1), none, none]) rfl hz (fun Γ => ?_)
  unfold f_X12_starts
  refine ag_aload_n dX12_starts_0 rfl ?_
  refine gM_X12_threadHome ho0 fl_X12_166 dX12_starts_1 ?_
  refine ag_iload_n dX12_starts_4 rfl ?_
  refine ag_chk (fun h1 => ?_)
  refine aM_97 (by decide) h1 dX12_starts_5 ?_
  refine ag_ltI (fun v2 => ?_)
  refine ag_istore_n (L' := [some (.ref (bs + posM 10 o0)), some (.int x1), some (.int v2), none]) dX12_starts_6 (by decide) rfl ?_
  refine ag_bipush (v := 8) dX12_starts_7 (by decide) ?_
  refine ag_iload_n dX12_starts_9 rfl ?_
  refine ag_imul dX12_starts_10 ?_
  refine ag_aload_n dX12_starts_11 rfl ?_
  refine gM_X12_threadExport ho0 fl_X12_169 dX12_starts_12 ?_
  refine ag_iload_n dX12_starts_15 rfl ?_
  refine ag_chk (fun h3 => ?_)
  refine aM_98 (by decide) h3 dX12_starts_16 ?_
  refine ag_iadd dX12_starts_17 ?_
  refine ag_ltI (fun v4 => ?_)
  refine ag_istore_n (L' := [some (.ref (bs + posM 10 o0)), some (.int x1), some (.int v2), some (.int v4)]) dX12_starts_18 (by decide) rfl ?_
  refine ag_aload_n dX12_starts_19 rfl ?_
  refine gM_X12_state ho0 fl_X12_61 dX12_starts_20 ?_
  refine ag_iload_n dX12_starts_23 rfl ?_
  refine ag_iconst (v := 0) dX12_starts_24 (by decide) ?_
  refine ag_chk (fun h5 => ?_)
  refine sM_47 (by decide) h5 dX12_starts_25 ?_
  refine ag_ltV (fun V6 => ?_)
  refine ag_aload_n dX12_starts_26 rfl ?_
  refine gM_X12_wake ho0 fl_X12_64 dX12_starts_27 ?_
  refine ag_iload_n dX12_starts_30 rfl ?_
  refine ag_iconst (v := (-1)) dX12_starts_31 (by decide) ?_
  refine ag_chk (fun h7 => ?_)
  refine sM_48 (by decide) h7 dX12_starts_32 ?_
  refine ag_ltV (fun V8 => ?_)
  refine ag_aload_n dX12_starts_33 rfl ?_
  refine gM_X12_home ho0 fl_X12_67 dX12_starts_34 ?_
  refine ag_iload_n dX12_starts_37 rfl ?_
  refine ag_iload_n dX12_starts_38 rfl ?_
  refine ag_chk (fun h9 => ?_)
  refine sM_49 (by decide) h9 dX12_starts_39 ?_
  refine ag_ltV (fun V10 => ?_)
  refine ag_aload_n dX12_starts_40 rfl ?_
  refine gM_X12_depth ho0 fl_X12_70 dX12_starts_41 ?_
  refine ag_iload_n dX12_starts_44 rfl ?_
  refine ag_iconst (v := 0) dX12_starts_45 (by decide) ?_
  refine ag_chk (fun h11 => ?_)
  refine sM_50 (by decide) h11 dX12_starts_46 ?_
  refine ag_ltV (fun V12 => ?_)
  refine ag_aload_n dX12_starts_47 rfl ?_
  refine gM_X12_on ho0 fl_X12_76 dX12_starts_48 ?_
  refine ag_iload_n dX12_starts_51 rfl ?_
  refine ag_aload_n dX12_starts_52 rfl ?_
  refine gM_X12_exportKind ho0 fl_X12_58 dX12_starts_53 ?_
  refine ag_iload_n dX12_starts_56 rfl ?_
  refine ag_chk (fun h13 => ?_)
  refine aM_46 (by decide) h13 dX12_starts_57 ?_
  refine ag_iconst (v := 2) dX12_starts_58 (by decide) ?_
  refine ag_dv (j := 67) (L1 := fun _ => [some (.ref (bs + posM 10 o0)), some (.int x1), some (.int v2), some (.int v4)]) (st1 := fun v14 => [.int (b2i v14), .int x1, .ref (bs + posM 52 0)]) (ws1 := fun _ => vwM cy bs V12) (fun v14 => ?_) (fun k41 hk15 => ?_)
  · refine ag_chk (fun h16 => ?_)
    refine sM_52 (x := v14) (by decide) h16 dX12_starts_67 ?_
    refine ag_ltV (fun V17 => ?_)
    refine ag_aload_n dX12_starts_68 rfl ?_
    refine gM_X12_lastFault ho0 fl_X12_79 dX12_starts_69 ?_
    refine ag_iload_n dX12_starts_72 rfl ?_
    refine ag_iconst (v := 0) dX12_starts_73 (by decide) ?_
    refine ag_chk (fun h18 => ?_)
    refine sM_53 (by decide) h18 dX12_starts_74 ?_
    refine ag_ltV (fun V19 => ?_)
    refine ag_aload_n dX12_starts_75 rfl ?_
    refine gM_X12_done ho0 fl_X12_82 dX12_starts_76 ?_
    refine ag_iload_n dX12_starts_79 rfl ?_
    refine ag_iconst (v := 0) dX12_starts_80 (by decide) ?_
    refine ag_chk (fun h20 => ?_)
    refine sM_54 (by decide) h20 dX12_starts_81 ?_
    refine ag_ltV (fun V21 => ?_)
    refine ag_aload_n dX12_starts_82 rfl ?_
    refine gM_X12_given ho0 fl_X12_94 dX12_starts_83 ?_
    refine ag_iload_n dX12_starts_86 rfl ?_
    refine ag_aload_n dX12_starts_87 rfl ?_
    refine gM_X12_stackEnd ho0 fl_X12_91 dX12_starts_88 ?_
    refine ag_iload_n dX12_starts_91 rfl ?_
    refine ag_chk (fun h22 => ?_)
    refine aM_57 (by decide) h22 dX12_starts_92 ?_
    refine ag_chk (fun h23 => ?_)
    refine sM_58 (by decide) h23 dX12_starts_93 ?_
    refine ag_ltV (fun V24 => ?_)
    refine ag_aload_n dX12_starts_94 rfl ?_
    refine gM_X12_became ho0 fl_X12_97 dX12_starts_95 ?_
    refine ag_iload_n dX12_starts_98 rfl ?_
    refine ag_iconst (v := 0) dX12_starts_99 (by decide) ?_
    refine ag_chk (fun h25 => ?_)
    refine sM_59 (by decide) h25 dX12_starts_100 ?_
    refine ag_ltV (fun V26 => ?_)
    refine ag_aload_n dX12_starts_101 rfl ?_
    refine gM_X12_began ho0 fl_X12_100 dX12_starts_102 ?_
    refine ag_iload_n dX12_starts_105 rfl ?_
    refine ag_iconst (v := 0) dX12_starts_106 (by decide) ?_
    refine ag_chk (fun h27 => ?_)
    refine sM_60 (by decide) h27 dX12_starts_107 ?_
    refine ag_ltV (fun V28 => ?_)
    refine ag_aload_n dX12_starts_108 rfl ?_
    refine gM_X12_wants ho0 fl_X12_109 dX12_starts_109 ?_
    refine ag_iload_n dX12_starts_112 rfl ?_
    refine ag_iconst (v := 0) dX12_starts_113 (by decide) ?_
    refine ag_chk (fun h29 => ?_)
    refine sM_63 (by decide) h29 dX12_starts_114 ?_
    refine ag_ltV (fun V30 => ?_)
    refine ag_aload_n dX12_starts_115 rfl ?_
    refine ag_iload_n dX12_starts_116 rfl ?_
    refine ag_aload_n dX12_starts_117 rfl ?_
    refine gM_X12_exportWord ho0 fl_X12_55 dX12_starts_118 ?_
    refine ag_iload_n dX12_starts_121 rfl ?_
    refine ag_chk (fun h31 => ?_)
    refine aM_45 (by decide) h31 dX12_starts_122 ?_
    refine ag_iload_n dX12_starts_123 rfl ?_
    refine ag_bipush (v := 16) dX12_starts_124 (by decide) ?_
    refine ag_isIp (c_X12_reg x1 16  rfl) vwM_D cs_X12_307 rfl rfl (Nat.le_of_ble_eq_true rfl) ⟨by decide, by decide⟩ ⟨Nat.zero_le _, Nat.zero_le _⟩ dX12_starts_126 ?_
    refine ag_ltI (fun v32 => ?_)
    refine ag_bnd (fun p33 hp33 => ?_)
    refine ag_ivVe (c_X12_code o0 v2 (V30 4500 0 (v4).toNatClampNeg) v32 ho0 hp33) vwM_D (vwM_at (kpM_10 _ ho0)) rfl cs_X12_310 rfl rfl (Nat.le_of_ble_eq_true rfl) ⟨by decide, by decide⟩ ⟨Nat.zero_le _, Nat.zero_le _⟩ dX12_starts_129 ?_
    refine ag_aload_n dX12_starts_132 rfl ?_
    refine ag_iload_n dX12_starts_133 rfl ?_
    refine ag_iconst (v := 1) dX12_starts_134 (by decide) ?_
    refine ag_isIp (c_X12_reg x1 1  rfl) vwM_D cs_X12_307 rfl rfl (Nat.le_of_ble_eq_true rfl) ⟨by decide, by decide⟩ ⟨Nat.zero_le _, Nat.zero_le _⟩ dX12_starts_135 ?_
    refine ag_ltI (fun v34 => ?_)
    refine ag_iconst (v := 0) dX12_starts_138 (by decide) ?_
    refine ag_iconst (v := 0) dX12_starts_139 (by decide) ?_
    refine ag_iconst (v := 0) dX12_starts_140 (by decide) ?_
    refine ag_iconst (v := 0) dX12_starts_141 (by decide) ?_
    refine ag_iconst (v := 5) dX12_starts_142 (by decide) ?_
    refine ag_iconst (v := 1) dX12_starts_143 (by decide) ?_
    refine ag_bnd (fun p35 hp35 => ?_)
    refine ag_ivVe (c_X12_make o0 v34 0 0 0 0 5 true ho0 hp35) vwM_D (vwM_at (kpM_10 _ ho0)) rfl cs_X12_250 rfl rfl (Nat.le_of_ble_eq_true rfl) ⟨by decide, by decide⟩ ⟨Nat.zero_le _, Nat.zero_le _⟩ dX12_starts_144 ?_
    refine ag_aload_n dX12_starts_147 rfl ?_
    refine ag_iload_n dX12_starts_148 rfl ?_
    refine ag_aload_n dX12_starts_149 rfl ?_
    refine gM_X12_stackEnd ho0 fl_X12_91 dX12_starts_150 ?_
    refine ag_iload_n dX12_starts_153 rfl ?_
    refine ag_chk (fun h36 => ?_)
    refine aM_57 (by decide) h36 dX12_starts_154 ?_
    refine ag_iload_n dX12_starts_155 rfl ?_
    refine ag_iconst (v := 2) dX12_starts_156 (by decide) ?_
    refine ag_isIp (c_X12_reg x1 2  rfl) vwM_D cs_X12_307 rfl rfl (Nat.le_of_ble_eq_true rfl) ⟨by decide, by decide⟩ ⟨Nat.zero_le _, Nat.zero_le _⟩ dX12_starts_157 ?_
    refine ag_ltI (fun v37 => ?_)
    refine ag_bnd (fun p38 hp38 => ?_)
    refine ag_ivVe (c_X12_stack o0 x1 (p35 5700 0 (x1).toNatClampNeg) v37 ho0 hp38) vwM_D (vwM_at (kpM_10 _ ho0)) rfl cs_X12_313 rfl rfl (Nat.le_of_ble_eq_true rfl) ⟨by decide, by decide⟩ ⟨Nat.zero_le _, Nat.zero_le _⟩ dX12_starts_160 ?_
    refine ag_aload_n dX12_starts_163 rfl ?_
    refine ag_iload_n dX12_starts_164 rfl ?_
    refine ag_iload_n dX12_starts_165 rfl ?_
    refine ag_iconst (v := 3) dX12_starts_166 (by decide) ?_
    refine ag_isIp (c_X12_reg x1 3  rfl) vwM_D cs_X12_307 rfl rfl (Nat.le_of_ble_eq_true rfl) ⟨by decide, by decide⟩ ⟨Nat.zero_le _, Nat.zero_le _⟩ dX12_starts_167 ?_
    refine ag_ltI (fun v39 => ?_)
    refine ag_bnd (fun p40 hp40 => ?_)
    refine ag_ivVe (c_X12_globals o0 v2 v39 ho0 hp40) vwM_D (vwM_at (kpM_10 _ ho0)) rfl cs_X12_316 rfl rfl (Nat.le_of_ble_eq_true rfl) ⟨by decide, by decide⟩ ⟨Nat.zero_le _, Nat.zero_le _⟩ dX12_starts_170 ?_
    exact ag_vrep dX12_starts_173
  · refine ag_icmp_eq_v (tgt := 66) dX12_starts_59 (by decide) (fun h42 => ?_) (fun h42 => ?_)
    · refine ag_iconst (v := 0) dX12_starts_66 (by decide) ?_
      exact hk15 false
    · refine ag_iconst (v := 1) dX12_starts_62 (by decide) ?_
      refine ag_goto (tgt := 67) dX12_starts_63 (by decide) ?_
      exact hk15 true
set_option maxRecDepth 100000 in
set_option maxHeartbeats 4000000 in
theorem c_X12_boot {l : Launch} {D : va_G} {cy : Nat → ClassId} {bs : Nat} {V : HV} (o0 : Nat) (x1 : Int32) (ho0 : o0 < 1) {z : Int32 × HV} (hz : f_X12_boot o0 x1 V = some z) : CM l (aG 57 bs) D (tyL cy) (vwM cy bs) yX12_boot cX12_boot 4 (some .int) 4 96 tvI [.ref (bs + posM 10 o0), .int x1] V z := by
  refine cm_of vwM_D (by decide +kernel) (own := RX12) rfl (Nat.le_of_ble_eq_true rfl) (L := [some (.ref (bs + posM 10 o0)), some (.int x1), none, none]) rfl hz (fun Γ => ?_)
  unfold f_X12_boot
  refine ag_iload_n dX12_boot_0 rfl ?_
  refine ag_if_lt (tgt := 12) dX12_boot_1 (by decide) (fun h1 => ?_) (fun h1 => ?_)
  · refine ag_iconst (v := (-1)) dX12_boot_12 (by decide) ?_
    exact ag_irep dX12_boot_13
  · refine ag_iload_n dX12_boot_4 rfl ?_
    refine ag_aload_n dX12_boot_5 rfl ?_
    refine gM_X12_tapeSize ho0 fl_X12_272 dX12_boot_6 ?_
    refine ag_icmp_le (tgt := 14) dX12_boot_9 (by decide) (fun h2 => ?_) (fun h2 => ?_)
    · refine ag_iconst (v := 0) dX12_boot_14 (by decide) ?_
      refine ag_istore_n (L' := [some (.ref (bs + posM 10 o0)), some (.int x1), some (.int 0), none]) dX12_boot_15 (by decide) rfl ?_
      refine ag_jn1 (j := 39) (L1 := fun V5 => [some (.ref (bs + posM 10 o0)), some (.int x1), none, none]) (st1 := fun V5 => []) (ws1 := fun V5 => vwM cy bs V5) (fun V5 => ?_) (fun k3 hk4 => ?_)
      · refine ag_aload_n dX12_boot_39 rfl ?_
        refine ag_iconst (v := 0) dX12_boot_40 (by decide) ?_
        refine pM_X12_tapeSize ho0 fl_X12_272 dX12_boot_41 ?_
        refine ag_ltV (fun V6 => ?_)
        refine ag_aload_n dX12_boot_44 rfl ?_
        refine ag_iload_n dX12_boot_45 rfl ?_
        refine pM_X12_imageSize ho0 fl_X12_284 dX12_boot_46 ?_
        refine ag_ltV (fun V7 => ?_)
        refine ag_aload_n dX12_boot_49 rfl ?_
        refine ag_bnd (fun p8 hp8 => ?_)
        refine ag_ivVe (c_X12_begins o0 ho0 hp8) vwM_D (vwM_at (kpM_10 _ ho0)) rfl cs_X12_188 rfl rfl (Nat.le_of_ble_eq_true rfl) ⟨by decide, by decide⟩ ⟨Nat.zero_le _, Nat.zero_le _⟩ dX12_boot_50 ?_
        refine ag_aload_n dX12_boot_53 rfl ?_
        refine ag_iconst (v := 0) dX12_boot_54 (by decide) ?_
        refine pM_X12_fault ho0 fl_X12_278 dX12_boot_55 ?_
        refine ag_ltV (fun V9 => ?_)
        refine ag_aload_n dX12_boot_58 rfl ?_
        refine ag_iconst (v := (-1)) dX12_boot_59 (by decide) ?_
        refine pM_X12_place ho0 fl_X12_36 dX12_boot_60 ?_
        refine ag_ltV (fun V10 => ?_)
        refine ag_aload_n dX12_boot_63 rfl ?_
        refine ag_bnd (fun p11 hp11 => ?_)
        refine ag_ivVe (c_X12_readAll o0 ho0 hp11) vwM_D (vwM_at (kpM_10 _ ho0)) rfl cs_X12_319 rfl rfl (Nat.le_of_ble_eq_true rfl) ⟨by decide, by decide⟩ ⟨Nat.zero_le _, Nat.zero_le _⟩ dX12_boot_64 ?_
        refine ag_aload_n dX12_boot_67 rfl ?_
        refine gM_X12_fault ho0 fl_X12_278 dX12_boot_68 ?_
        refine ag_if_eq (tgt := 95) dX12_boot_71 (by decide) (fun h12 => ?_) (fun h12 => ?_)
        · refine ag_iconst (v := 0) dX12_boot_95 (by decide) ?_
          refine ag_istore_n (L' := [some (.ref (bs + posM 10 o0)), some (.int x1), some (.int 0), none]) dX12_boot_96 (by decide) rfl ?_
          refine ag_jn1 (j := 116) (L1 := fun V15 => [some (.ref (bs + posM 10 o0)), some (.int x1), none, none]) (st1 := fun V15 => []) (ws1 := fun V15 => vwM cy bs V15) (fun V15 => ?_) (fun k13 hk14 => ?_)
          · refine ag_iconst (v := 0) dX12_boot_116 (by decide) ?_
            refine ag_istore_n (L' := [some (.ref (bs + posM 10 o0)), some (.int x1), some (.int 0), none]) dX12_boot_117 (by decide) rfl ?_
            refine ag_jn1 (j := 137) (L1 := fun V18 => [some (.ref (bs + posM 10 o0)), some (.int x1), none, none]) (st1 := fun V18 => []) (ws1 := fun V18 => vwM cy bs V18) (fun V18 => ?_) (fun k16 hk17 => ?_)
            · refine ag_aload_n dX12_boot_137 rfl ?_
              refine ag_iconst (v := 1) dX12_boot_138 (by decide) ?_
              refine pM_X12_booted (x := true) ho0 fl_X12_191 dX12_boot_139 ?_
              refine ag_ltV (fun V19 => ?_)
              refine ag_iconst (v := 0) dX12_boot_142 (by decide) ?_
              exact ag_irep dX12_boot_143
            · refine ag_loop2 (F := f_X12_boot_L118 o0 k16) (L1 := fun v20 V21 => [some (.ref (bs + posM 10 o0)), some (.int x1), some (.int v20), none]) (st1 := fun v20 V21 => []) (ws1 := fun v20 V21 => vwM cy bs V21) (fun n22 ih23 v20 V21 => ?_) (fun _ _ => rfl) FU 0 V15
              rw [f_X12_boot_L118]
              refine ag_iload_n dX12_boot_118 rfl ?_
              refine ag_aload_n dX12_boot_119 rfl ?_
              refine gM_X12_threads ho0 fl_X12_198 dX12_boot_120 ?_
              refine ag_icmp_ge (tgt := 137) dX12_boot_123 (by decide) (fun h24 => ?_) (fun h24 => ?_)
              · refine ag_drop [2] (L' := [some (.ref (bs + posM 10 o0)), some (.int x1), none, none]) rfl ?_
                exact hk17 V21
              · refine ag_aload_n dX12_boot_126 rfl ?_
                refine ag_iload_n dX12_boot_127 rfl ?_
                refine ag_bnd (fun p25 hp25 => ?_)
                refine ag_ivVe (c_X12_starts o0 v20 ho0 hp25) vwM_D (vwM_at (kpM_10 _ ho0)) rfl cs_X12_325 rfl rfl (Nat.le_of_ble_eq_true rfl) ⟨by decide, by decide⟩ ⟨Nat.zero_le _, Nat.zero_le _⟩ dX12_boot_128 ?_
                refine ag_iincL (L' := fun v26 => [some (.ref (bs + posM 10 o0)), some (.int x1), some (.int v26), none]) dX12_boot_131 (by decide) rfl (by decide) (fun _ => rfl) (fun v26 => ?_)
                refine ag_goto (tgt := 118) dX12_boot_134 (by decide) ?_
                exact ih23 v26 p25
          · refine ag_loop2 (F := f_X12_boot_L97 o0 k13) (L1 := fun v27 V28 => [some (.ref (bs + posM 10 o0)), some (.int x1), some (.int v27), none]) (st1 := fun v27 V28 => []) (ws1 := fun v27 V28 => vwM cy bs V28) (fun n29 ih30 v27 V28 => ?_) (fun _ _ => rfl) FU 0 p11
            rw [f_X12_boot_L97]
            refine ag_iload_n dX12_boot_97 rfl ?_
            refine ag_aload_n dX12_boot_98 rfl ?_
            refine gM_X12_compartments ho0 fl_X12_195 dX12_boot_99 ?_
            refine ag_icmp_ge (tgt := 116) dX12_boot_102 (by decide) (fun h31 => ?_) (fun h31 => ?_)
            · refine ag_drop [2] (L' := [some (.ref (bs + posM 10 o0)), some (.int x1), none, none]) rfl ?_
              exact hk14 V28
            · refine ag_aload_n dX12_boot_105 rfl ?_
              refine ag_iload_n dX12_boot_106 rfl ?_
              refine ag_bnd (fun p32 hp32 => ?_)
              refine ag_ivVe (c_X12_fill o0 v27 ho0 hp32) vwM_D (vwM_at (kpM_10 _ ho0)) rfl cs_X12_322 rfl rfl (Nat.le_of_ble_eq_true rfl) ⟨by decide, by decide⟩ ⟨Nat.zero_le _, Nat.zero_le _⟩ dX12_boot_107 ?_
              refine ag_iincL (L' := fun v33 => [some (.ref (bs + posM 10 o0)), some (.int x1), some (.int v33), none]) dX12_boot_110 (by decide) rfl (by decide) (fun _ => rfl) (fun v33 => ?_)
              refine ag_goto (tgt := 97) dX12_boot_113 (by decide) ?_
              exact ih30 v33 p32
        · refine ag_aload_n dX12_boot_74 rfl ?_
          refine gM_X12_fault ho0 fl_X12_278 dX12_boot_75 ?_
          refine ag_ltI (fun v34 => ?_)
          refine ag_istore_n (L' := [some (.ref (bs + posM 10 o0)), some (.int x1), some (.int v34), none]) dX12_boot_78 (by decide) rfl ?_
          refine ag_aload_n dX12_boot_79 rfl ?_
          refine gM_X12_place ho0 fl_X12_36 dX12_boot_80 ?_
          refine ag_ltI (fun v35 => ?_)
          refine ag_istore_n (L' := [some (.ref (bs + posM 10 o0)), some (.int x1), some (.int v34), some (.int v35)]) dX12_boot_83 (by decide) rfl ?_
          refine ag_aload_n dX12_boot_84 rfl ?_
          refine ag_bnd (fun p36 hp36 => ?_)
          refine ag_ivVe (c_X12_begins o0 ho0 hp36) vwM_D (vwM_at (kpM_10 _ ho0)) rfl cs_X12_188 rfl rfl (Nat.le_of_ble_eq_true rfl) ⟨by decide, by decide⟩ ⟨Nat.zero_le _, Nat.zero_le _⟩ dX12_boot_85 ?_
          refine ag_aload_n dX12_boot_88 rfl ?_
          refine ag_iload_n dX12_boot_89 rfl ?_
          refine pM_X12_place ho0 fl_X12_36 dX12_boot_90 ?_
          refine ag_ltV (fun V37 => ?_)
          refine ag_iload_n dX12_boot_93 rfl ?_
          exact ag_irep dX12_boot_94
      · refine ag_loop2 (F := f_X12_boot_L16 x1 k3) (L1 := fun v38 V39 => [some (.ref (bs + posM 10 o0)), some (.int x1), some (.int v38), none]) (st1 := fun v38 V39 => []) (ws1 := fun v38 V39 => vwM cy bs V39) (fun n40 ih41 v38 V39 => ?_) (fun _ _ => rfl) FU 0 V
        rw [f_X12_boot_L16]
        refine ag_iload_n dX12_boot_16 rfl ?_
        refine ag_iload_n dX12_boot_17 rfl ?_
        refine ag_icmp_ge (tgt := 39) dX12_boot_18 (by decide) (fun h42 => ?_) (fun h42 => ?_)
        · refine ag_drop [2] (L' := [some (.ref (bs + posM 10 o0)), some (.int x1), none, none]) rfl ?_
          exact hk4 V39
        · refine ag_aload_n dX12_boot_21 rfl ?_
          refine gM_X12_image ho0 fl_X12_33 dX12_boot_22 ?_
          refine ag_iload_n dX12_boot_25 rfl ?_
          refine ag_aload_n dX12_boot_26 rfl ?_
          refine gM_X12_tape ho0 fl_X12_29 dX12_boot_27 ?_
          refine ag_iload_n dX12_boot_30 rfl ?_
          refine ag_chk (fun h43 => ?_)
          refine aM_30 (by decide) h43 dX12_boot_31 ?_
          refine ag_chk (fun h44 => ?_)
          refine sM_32 (by decide) h44 dX12_boot_32 ?_
          refine ag_ltV (fun V45 => ?_)
          refine ag_iincL (L' := fun v46 => [some (.ref (bs + posM 10 o0)), some (.int x1), some (.int v46), none]) dX12_boot_33 (by decide) rfl (by decide) (fun _ => rfl) (fun v46 => ?_)
          refine ag_goto (tgt := 16) dX12_boot_36 (by decide) ?_
          exact ih41 v46 V45
    · refine ag_iconst (v := (-1)) dX12_boot_12 (by decide) ?_
      exact ag_irep dX12_boot_13
set_option maxRecDepth 100000 in
set_option maxHeartbeats 4000000 in
theorem c_X12_place {l : Launch} {D : va_G} {cy : Nat → ClassId} {bs : Nat} {V : HV} (o0 : Nat) (ho0 : o0 < 1) {z : Int32} (hz : f_X12_place o0 V = z) : CM l (aG 57 bs) D (tyL cy) (vwM cy bs) yX12_place cX12_place 1 (some .int) 0 0 tvI [.ref (bs + posM 10 o0)] V (z, V) := by
  refine cm_of vwM_D (by decide +kernel) (own := RX12) rfl (Nat.le_of_ble_eq_true rfl) (L := [some (.ref (bs + posM 10 o0))]) rfl hz (fun Γ => ?_)
  unfold f_X12_place
  refine ag_aload_n dX12_place_0 rfl ?_
  refine gM_X12_place ho0 fl_X12_36 dX12_place_1 ?_
  exact ag_irp dX12_place_4
set_option maxRecDepth 100000 in
set_option maxHeartbeats 4000000 in
theorem c_X12_d {l : Launch} {D : va_G} {cy : Nat → ClassId} {bs : Nat} {V : HV} (o0 : Nat) (ho0 : o0 < 1) {z : Int32} (hz : f_X12_d o0 V = z) : CM l (aG 57 bs) D (tyL cy) (vwM cy bs) yX12_d cX12_d 1 (some .int) 0 0 tvI [.ref (bs + posM 10 o0)] V (z, V) := by
  refine cm_of vwM_D (by decide +kernel) (own := RX12) rfl (Nat.le_of_ble_eq_true rfl) (L := [some (.ref (bs + posM 10 o0))]) rfl hz (fun Γ => ?_)
  unfold f_X12_d
  refine ag_aload_n dX12_d_0 rfl ?_
  refine gM_X12_word ho0 fl_X12_328 dX12_d_1 ?_
  refine ag_bipush (v := 7) dX12_d_4 (by decide) ?_
  refine ag_ishr dX12_d_6 ?_
  refine ag_bipush (v := 31) dX12_d_7 (by decide) ?_
  refine ag_iand dX12_d_9 ?_
  exact ag_irp dX12_d_10
set_option maxRecDepth 100000 in
set_option maxHeartbeats 4000000 in
theorem c_X12_f {l : Launch} {D : va_G} {cy : Nat → ClassId} {bs : Nat} {V : HV} (o0 : Nat) (ho0 : o0 < 1) {z : Int32} (hz : f_X12_f o0 V = z) : CM l (aG 57 bs) D (tyL cy) (vwM cy bs) yX12_f cX12_f 1 (some .int) 0 0 tvI [.ref (bs + posM 10 o0)] V (z, V) := by
  refine cm_of vwM_D (by decide +kernel) (own := RX12) rfl (Nat.le_of_ble_eq_true rfl) (L := [some (.ref (bs + posM 10 o0))]) rfl hz (fun Γ => ?_)
  unfold f_X12_f
  refine ag_aload_n dX12_f_0 rfl ?_
  refine gM_X12_word ho0 fl_X12_328 dX12_f_1 ?_
  refine ag_bipush (v := 12) dX12_f_4 (by decide) ?_
  refine ag_ishr dX12_f_6 ?_
  refine ag_bipush (v := 7) dX12_f_7 (by decide) ?_
  refine ag_iand dX12_f_9 ?_
  exact ag_irp dX12_f_10
set_option maxRecDepth 100000 in
set_option maxHeartbeats 4000000 in
theorem c_X12_a {l : Launch} {D : va_G} {cy : Nat → ClassId} {bs : Nat} {V : HV} (o0 : Nat) (ho0 : o0 < 1) {z : Int32} (hz : f_X12_a o0 V = z) : CM l (aG 57 bs) D (tyL cy) (vwM cy bs) yX12_a cX12_a 1 (some .int) 0 0 tvI [.ref (bs + posM 10 o0)] V (z, V) := by
  refine cm_of vwM_D (by decide +kernel) (own := RX12) rfl (Nat.le_of_ble_eq_true rfl) (L := [some (.ref (bs + posM 10 o0))]) rfl hz (fun Γ => ?_)
  unfold f_X12_a
  refine ag_aload_n dX12_a_0 rfl ?_
  refine gM_X12_word ho0 fl_X12_328 dX12_a_1 ?_
  refine ag_bipush (v := 15) dX12_a_4 (by decide) ?_
  refine ag_ishr dX12_a_6 ?_
  refine ag_bipush (v := 31) dX12_a_7 (by decide) ?_
  refine ag_iand dX12_a_9 ?_
  exact ag_irp dX12_a_10
set_option maxRecDepth 100000 in
set_option maxHeartbeats 4000000 in
theorem c_X12_b {l : Launch} {D : va_G} {cy : Nat → ClassId} {bs : Nat} {V : HV} (o0 : Nat) (ho0 : o0 < 1) {z : Int32} (hz : f_X12_b o0 V = z) : CM l (aG 57 bs) D (tyL cy) (vwM cy bs) yX12_b cX12_b 1 (some .int) 0 0 tvI [.ref (bs + posM 10 o0)] V (z, V) := by
  refine cm_of vwM_D (by decide +kernel) (own := RX12) rfl (Nat.le_of_ble_eq_true rfl) (L := [some (.ref (bs + posM 10 o0))]) rfl hz (fun Γ => ?_)
  unfold f_X12_b
  refine ag_aload_n dX12_b_0 rfl ?_
  refine gM_X12_word ho0 fl_X12_328 dX12_b_1 ?_
  refine ag_bipush (v := 20) dX12_b_4 (by decide) ?_
  refine ag_ishr dX12_b_6 ?_
  refine ag_bipush (v := 31) dX12_b_7 (by decide) ?_
  refine ag_iand dX12_b_9 ?_
  exact ag_irp dX12_b_10
set_option maxRecDepth 100000 in
set_option maxHeartbeats 4000000 in
theorem c_X12_g {l : Launch} {D : va_G} {cy : Nat → ClassId} {bs : Nat} {V : HV} (o0 : Nat) (ho0 : o0 < 1) {z : Int32} (hz : f_X12_g o0 V = z) : CM l (aG 57 bs) D (tyL cy) (vwM cy bs) yX12_g cX12_g 1 (some .int) 0 0 tvI [.ref (bs + posM 10 o0)] V (z, V) := by
  refine cm_of vwM_D (by decide +kernel) (own := RX12) rfl (Nat.le_of_ble_eq_true rfl) (L := [some (.ref (bs + posM 10 o0))]) rfl hz (fun Γ => ?_)
  unfold f_X12_g
  refine ag_aload_n dX12_g_0 rfl ?_
  refine gM_X12_word ho0 fl_X12_328 dX12_g_1 ?_
  refine ag_bipush (v := 25) dX12_g_4 (by decide) ?_
  refine ag_ishr dX12_g_6 ?_
  refine ag_bipush (v := 127) dX12_g_7 (by decide) ?_
  refine ag_iand dX12_g_9 ?_
  exact ag_irp dX12_g_10
set_option maxRecDepth 100000 in
set_option maxHeartbeats 4000000 in
theorem c_X12_value {l : Launch} {D : va_G} {cy : Nat → ClassId} {bs : Nat} {V : HV} (o0 : Nat) (x1 : Int32) (ho0 : o0 < 1) {z : Int32} (hz : f_X12_value o0 x1 V = some z) : CM l (aG 57 bs) D (tyL cy) (vwM cy bs) yX12_value cX12_value 2 (some .int) 1 21 tvI [.ref (bs + posM 10 o0), .int x1] V (z, V) := by
  refine cm_of vwM_D (by decide +kernel) (own := RX12) rfl (Nat.le_of_ble_eq_true rfl) (L := [some (.ref (bs + posM 10 o0)), some (.int x1)]) rfl hz (fun Γ => ?_)
  unfold f_X12_value
  refine ag_aload_n dX12_value_0 rfl ?_
  refine gM_X12_cursor ho0 fl_X12_7 dX12_value_1 ?_
  refine ag_aload_n dX12_value_4 rfl ?_
  refine gM_X12_t0 ho0 fl_X12_330 dX12_value_5 ?_
  refine ag_iload_n dX12_value_8 rfl ?_
  refine ag_isIp (c_X12_reg (V 1080 o0 0) x1  rfl) vwM_D cs_X12_307 rfl rfl (Nat.le_of_ble_eq_true rfl) ⟨by decide, by decide⟩ ⟨Nat.zero_le _, Nat.zero_le _⟩ dX12_value_9 ?_
  refine ag_ltI (fun v1 => ?_)
  refine ag_chk (fun h2 => ?_)
  refine aM_24 (by decide) h2 dX12_value_12 ?_
  exact ag_irpp dX12_value_13
set_option maxRecDepth 100000 in
set_option maxHeartbeats 4000000 in
theorem c_X12_writes {l : Launch} {D : va_G} {cy : Nat → ClassId} {bs : Nat} {V : HV} (o0 : Nat) (x1 : Int32) (x2 : Int32) (ho0 : o0 < 1) {z : HV} (hz : f_X12_writes o0 x1 x2 V = some z) : CM l (aG 57 bs) D (tyL cy) (vwM cy bs) yX12_writes cX12_writes 3 none 2 49 tvV [.ref (bs + posM 10 o0), .int x1, .int x2] V ((), z) := by
  refine cm_of vwM_D (by decide +kernel) (own := RX12) rfl (Nat.le_of_ble_eq_true rfl) (L := [some (.ref (bs + posM 10 o0)), some (.int x1), some (.int x2)]) rfl hz (fun Γ => ?_)
  unfold f_X12_writes
  refine ag_iload_n dX12_writes_0 rfl ?_
  refine ag_if_eq (tgt := 17) dX12_writes_1 (by decide) (fun h1 => ?_) (fun h1 => ?_)
  · exact ag_vrep dX12_writes_17
  · refine ag_aload_n dX12_writes_4 rfl ?_
    refine ag_aload_n dX12_writes_5 rfl ?_
    refine gM_X12_t0 ho0 fl_X12_330 dX12_writes_6 ?_
    refine ag_iload_n dX12_writes_9 rfl ?_
    refine ag_isIp (c_X12_reg (V 1080 o0 0) x1  rfl) vwM_D cs_X12_307 rfl rfl (Nat.le_of_ble_eq_true rfl) ⟨by decide, by decide⟩ ⟨Nat.zero_le _, Nat.zero_le _⟩ dX12_writes_10 ?_
    refine ag_ltI (fun v2 => ?_)
    refine ag_iload_n dX12_writes_13 rfl ?_
    refine ag_bnd (fun p3 hp3 => ?_)
    refine ag_ivVe (c_X12_number o0 v2 x2 ho0 hp3) vwM_D (vwM_at (kpM_10 _ ho0)) rfl cs_X12_333 rfl rfl (Nat.le_of_ble_eq_true rfl) ⟨by decide, by decide⟩ ⟨Nat.zero_le _, Nat.zero_le _⟩ dX12_writes_14 ?_
    exact ag_vrep dX12_writes_17
set_option maxRecDepth 100000 in
set_option maxHeartbeats 4000000 in
theorem c_X12_comes {l : Launch} {D : va_G} {cy : Nat → ClassId} {bs : Nat} {V : HV} (o0 : Nat) (x1 : Int32) (x2 : Int32) (ho0 : o0 < 1) {z : HV} (hz : f_X12_comes o0 x1 x2 V = some z) : CM l (aG 57 bs) D (tyL cy) (vwM cy bs) yX12_comes cX12_comes 3 none 2 49 tvV [.ref (bs + posM 10 o0), .int x1, .int x2] V ((), z) := by
  refine cm_of vwM_D (by decide +kernel) (own := RX12) rfl (Nat.le_of_ble_eq_true rfl) (L := [some (.ref (bs + posM 10 o0)), some (.int x1), some (.int x2)]) rfl hz (fun Γ => ?_)
  unfold f_X12_comes
  refine ag_iload_n dX12_comes_0 rfl ?_
  refine ag_if_eq (tgt := 17) dX12_comes_1 (by decide) (fun h1 => ?_) (fun h1 => ?_)
  · exact ag_vrep dX12_comes_17
  · refine ag_aload_n dX12_comes_4 rfl ?_
    refine ag_iload_n dX12_comes_5 rfl ?_
    refine ag_aload_n dX12_comes_6 rfl ?_
    refine gM_X12_t0 ho0 fl_X12_330 dX12_comes_7 ?_
    refine ag_iload_n dX12_comes_10 rfl ?_
    refine ag_isIp (c_X12_reg (V 1080 o0 0) x2  rfl) vwM_D cs_X12_307 rfl rfl (Nat.le_of_ble_eq_true rfl) ⟨by decide, by decide⟩ ⟨Nat.zero_le _, Nat.zero_le _⟩ dX12_comes_11 ?_
    refine ag_ltI (fun v2 => ?_)
    refine ag_bnd (fun p3 hp3 => ?_)
    refine ag_ivVe (c_X12_copy o0 x1 v2 ho0 hp3) vwM_D (vwM_at (kpM_10 _ ho0)) rfl cs_X12_336 rfl rfl (Nat.le_of_ble_eq_true rfl) ⟨by decide, by decide⟩ ⟨Nat.zero_le _, Nat.zero_le _⟩ dX12_comes_14 ?_
    exact ag_vrep dX12_comes_17
set_option maxRecDepth 100000 in
set_option maxHeartbeats 4000000 in
theorem c_X12_pcc {l : Launch} {D : va_G} {cy : Nat → ClassId} {bs : Nat} {V : HV} (o0 : Nat) (ho0 : o0 < 1) {z : Int32} (hz : f_X12_pcc o0 V = z) : CM l (aG 57 bs) D (tyL cy) (vwM cy bs) yX12_pcc cX12_pcc 1 (some .int) 1 21 tvI [.ref (bs + posM 10 o0)] V (z, V) := by
  refine cm_of vwM_D (by decide +kernel) (own := RX12) rfl (Nat.le_of_ble_eq_true rfl) (L := [some (.ref (bs + posM 10 o0))]) rfl hz (fun Γ => ?_)
  unfold f_X12_pcc
  refine ag_aload_n dX12_pcc_0 rfl ?_
  refine gM_X12_t0 ho0 fl_X12_330 dX12_pcc_1 ?_
  refine ag_bipush (v := 16) dX12_pcc_4 (by decide) ?_
  refine ag_isIp (c_X12_reg (V 1080 o0 0) 16  rfl) vwM_D cs_X12_307 rfl rfl (Nat.le_of_ble_eq_true rfl) ⟨by decide, by decide⟩ ⟨Nat.zero_le _, Nat.zero_le _⟩ dX12_pcc_6 ?_
  refine ag_ltI (fun v1 => ?_)
  exact ag_irp dX12_pcc_9
set_option maxRecDepth 100000 in
set_option maxHeartbeats 4000000 in
theorem c_X12_goesOn {l : Launch} {D : va_G} {cy : Nat → ClassId} {bs : Nat} {V : HV} (o0 : Nat) (ho0 : o0 < 1) {z : HV} (hz : f_X12_goesOn o0 V = some z) : CM l (aG 57 bs) D (tyL cy) (vwM cy bs) yX12_goesOn cX12_goesOn 1 none 2 41 tvV [.ref (bs + posM 10 o0)] V ((), z) := by
  refine cm_of vwM_D (by decide +kernel) (own := RX12) rfl (Nat.le_of_ble_eq_true rfl) (L := [some (.ref (bs + posM 10 o0))]) rfl hz (fun Γ => ?_)
  unfold f_X12_goesOn
  refine ag_aload_n dX12_goesOn_0 rfl ?_
  refine gM_X12_cursor ho0 fl_X12_7 dX12_goesOn_1 ?_
  refine ag_aload_n dX12_goesOn_4 rfl ?_
  refine ag_ivIp (c_X12_pcc o0 ho0 rfl) vwM_D (vwM_at (kpM_10 _ ho0)) rfl cs_X12_339 rfl rfl (Nat.le_of_ble_eq_true rfl) ⟨by decide, by decide⟩ ⟨Nat.zero_le _, Nat.zero_le _⟩ dX12_goesOn_5 ?_
  refine ag_ltI (fun v1 => ?_)
  refine ag_dup2 dX12_goesOn_8 rfl rfl ?_
  refine ag_chk (fun h2 => ?_)
  refine aM_24 (by decide) h2 dX12_goesOn_9 ?_
  refine ag_iconst (v := 4) dX12_goesOn_10 (by decide) ?_
  refine ag_iadd dX12_goesOn_11 ?_
  refine ag_chk (fun h3 => ?_)
  refine sM_24 (by decide) h3 dX12_goesOn_12 ?_
  refine ag_ltV (fun V4 => ?_)
  exact ag_vrep dX12_goesOn_13
set_option maxRecDepth 100000 in
set_option maxHeartbeats 4000000 in
theorem c_X12_isRight {l : Launch} {D : va_G} {cy : Nat → ClassId} {bs : Nat} {V : HV} (o0 : Nat) (ho0 : o0 < 1) {z : Bool} (hz : f_X12_isRight o0 V = z) : CM l (aG 57 bs) D (tyL cy) (vwM cy bs) yX12_isRight cX12_isRight 7 (some .boolean) 1 20 tvZ [.ref (bs + posM 10 o0)] V (z, V) := by
  refine cm_of vwM_D (by decide +kernel) (own := RX12) rfl (Nat.le_of_ble_eq_true rfl) (L := [some (.ref (bs + posM 10 o0)), none, none, none, none, none, none]) rfl hz (fun Γ => ?_)
  unfold f_X12_isRight
  refine ag_aload_n dX12_isRight_0 rfl ?_
  refine ag_ivIp (c_X12_d o0 ho0 rfl) vwM_D (vwM_at (kpM_10 _ ho0)) rfl cs_X12_343 rfl rfl (Nat.le_of_ble_eq_true rfl) ⟨by decide, by decide⟩ ⟨Nat.zero_le _, Nat.zero_le _⟩ dX12_isRight_1 ?_
  refine ag_ltI (fun v1 => ?_)
  refine ag_istore_n (L' := [some (.ref (bs + posM 10 o0)), some (.int v1), none, none, none, none, none]) dX12_isRight_4 (by decide) rfl ?_
  refine ag_aload_n dX12_isRight_5 rfl ?_
  refine ag_ivIp (c_X12_a o0 ho0 rfl) vwM_D (vwM_at (kpM_10 _ ho0)) rfl cs_X12_346 rfl rfl (Nat.le_of_ble_eq_true rfl) ⟨by decide, by decide⟩ ⟨Nat.zero_le _, Nat.zero_le _⟩ dX12_isRight_6 ?_
  refine ag_ltI (fun v2 => ?_)
  refine ag_istore_n (L' := [some (.ref (bs + posM 10 o0)), some (.int v1), some (.int v2), none, none, none, none]) dX12_isRight_9 (by decide) rfl ?_
  refine ag_aload_n dX12_isRight_10 rfl ?_
  refine ag_ivIp (c_X12_b o0 ho0 rfl) vwM_D (vwM_at (kpM_10 _ ho0)) rfl cs_X12_349 rfl rfl (Nat.le_of_ble_eq_true rfl) ⟨by decide, by decide⟩ ⟨Nat.zero_le _, Nat.zero_le _⟩ dX12_isRight_11 ?_
  refine ag_ltI (fun v3 => ?_)
  refine ag_istore_n (L' := [some (.ref (bs + posM 10 o0)), some (.int v1), some (.int v2), some (.int v3), none, none, none]) dX12_isRight_14 (by decide) rfl ?_
  refine ag_aload_n dX12_isRight_15 rfl ?_
  refine ag_ivIp (c_X12_f o0 ho0 rfl) vwM_D (vwM_at (kpM_10 _ ho0)) rfl cs_X12_352 rfl rfl (Nat.le_of_ble_eq_true rfl) ⟨by decide, by decide⟩ ⟨Nat.zero_le _, Nat.zero_le _⟩ dX12_isRight_16 ?_
  refine ag_ltI (fun v4 => ?_)
  refine ag_istore (L' := [some (.ref (bs + posM 10 o0)), some (.int v1), some (.int v2), some (.int v3), some (.int v4), none, none]) dX12_isRight_19 (by decide) rfl ?_
  refine ag_aload_n dX12_isRight_21 rfl ?_
  refine ag_ivIp (c_X12_g o0 ho0 rfl) vwM_D (vwM_at (kpM_10 _ ho0)) rfl cs_X12_355 rfl rfl (Nat.le_of_ble_eq_true rfl) ⟨by decide, by decide⟩ ⟨Nat.zero_le _, Nat.zero_le _⟩ dX12_isRight_22 ?_
  refine ag_ltI (fun v5 => ?_)
  refine ag_istore (L' := [some (.ref (bs + posM 10 o0)), some (.int v1), some (.int v2), some (.int v3), some (.int v4), some (.int v5), none]) dX12_isRight_25 (by decide) rfl ?_
  refine ag_iload_n dX12_isRight_27 rfl ?_
  refine ag_bipush (v := 16) dX12_isRight_28 (by decide) ?_
  refine ag_dv (j := 44) (L1 := fun _ => [some (.ref (bs + posM 10 o0)), some (.int v1), some (.int v2), some (.int v3), some (.int v4), some (.int v5), none]) (st1 := fun v6 => [.int (b2i v6)]) (ws1 := fun _ => vwM cy bs V) (fun v6 => ?_) (fun k85 hk7 => ?_)
  · refine ag_istore (L' := [some (.ref (bs + posM 10 o0)), some (.int v1), some (.int v2), some (.int v3), some (.int v4), some (.int v5), some (.int (b2i v6))]) dX12_isRight_44 (by decide) rfl ?_
    refine ag_aload_n dX12_isRight_46 rfl ?_
    refine gM_X12_word ho0 fl_X12_328 dX12_isRight_47 ?_
    refine ag_bipush (v := 127) dX12_isRight_50 (by decide) ?_
    refine ag_iand dX12_isRight_52 ?_
    refine ag_if (fun h8 => ?_) (fun h8 => ?_)
    · refine ag_lk (off := 214) (tgt := 267) dX12_isRight_53 (by decide) (by rw [h8]; decide) (by decide) ?_
      refine ag_iload dX12_isRight_267 rfl ?_
      refine ag_dv (j := 284) (L1 := fun _ => [some (.ref (bs + posM 10 o0)), some (.int v1), some (.int v2), some (.int v3), some (.int v4), some (.int v5), some (.int (b2i v6))]) (st1 := fun v9 => [.int (b2i v9)]) (ws1 := fun _ => vwM cy bs V) (fun v9 => ?_) (fun k11 hk10 => ?_)
      · exact ag_zrp (x := v9) dX12_isRight_284
      · refine ag_bif_eq_v (tgt := 283) dX12_isRight_269 (by decide) (fun h12 => ?_) (fun h12 => ?_)
        · refine ag_iconst (v := 0) dX12_isRight_283 (by decide) ?_
          exact hk10 false
        · refine ag_iload dX12_isRight_272 rfl ?_
          refine ag_bipush (v := 6) dX12_isRight_274 (by decide) ?_
          refine ag_icmp_ge_v (tgt := 283) dX12_isRight_276 (by decide) (fun h13 => ?_) (fun h13 => ?_)
          · refine ag_iconst (v := 0) dX12_isRight_283 (by decide) ?_
            exact hk10 false
          · refine ag_iconst (v := 1) dX12_isRight_279 (by decide) ?_
            refine ag_goto (tgt := 284) dX12_isRight_280 (by decide) ?_
            exact hk10 true
    · refine ag_if (fun h14 => ?_) (fun h14 => ?_)
      · refine ag_lk (off := 133) (tgt := 186) dX12_isRight_53 (by decide) (by rw [h14]; decide) (by decide) ?_
        refine ag_iload dX12_isRight_186 rfl ?_
        refine ag_dv (j := 225) (L1 := fun _ => [some (.ref (bs + posM 10 o0)), some (.int v1), some (.int v2), some (.int v3), some (.int v4), some (.int v5), some (.int (b2i v6))]) (st1 := fun v15 => [.int (b2i v15)]) (ws1 := fun _ => vwM cy bs V) (fun v15 => ?_) (fun k17 hk16 => ?_)
        · exact ag_zrp (x := v15) dX12_isRight_225
        · refine ag_bif_eq_v (tgt := 224) dX12_isRight_188 (by decide) (fun h18 => ?_) (fun h18 => ?_)
          · refine ag_iconst (v := 0) dX12_isRight_224 (by decide) ?_
            exact hk16 false
          · refine ag_iload dX12_isRight_191 rfl ?_
            refine ag_iconst (v := 1) dX12_isRight_193 (by decide) ?_
            refine ag_icmp_ne_v (tgt := 202) dX12_isRight_194 (by decide) (fun h19 => ?_) (fun h19 => ?_)
            · refine ag_iload dX12_isRight_202 rfl ?_
              refine ag_iconst (v := 5) dX12_isRight_204 (by decide) ?_
              refine ag_icmp_ne_v (tgt := 220) dX12_isRight_205 (by decide) (fun h20 => ?_) (fun h20 => ?_)
              · refine ag_iconst (v := 1) dX12_isRight_220 (by decide) ?_
                refine ag_goto (tgt := 225) dX12_isRight_221 (by decide) ?_
                exact hk16 true
              · refine ag_iload dX12_isRight_208 rfl ?_
                refine ag_if_eq_v (tgt := 220) dX12_isRight_210 (by decide) (fun h21 => ?_) (fun h21 => ?_)
                · refine ag_iconst (v := 1) dX12_isRight_220 (by decide) ?_
                  refine ag_goto (tgt := 225) dX12_isRight_221 (by decide) ?_
                  exact hk16 true
                · refine ag_iload dX12_isRight_213 rfl ?_
                  refine ag_bipush (v := 32) dX12_isRight_215 (by decide) ?_
                  refine ag_icmp_ne_v (tgt := 224) dX12_isRight_217 (by decide) (fun h22 => ?_) (fun h22 => ?_)
                  · refine ag_iconst (v := 0) dX12_isRight_224 (by decide) ?_
                    exact hk16 false
                  · refine ag_iconst (v := 1) dX12_isRight_220 (by decide) ?_
                    refine ag_goto (tgt := 225) dX12_isRight_221 (by decide) ?_
                    exact hk16 true
            · refine ag_iload dX12_isRight_197 rfl ?_
              refine ag_if_ne_v (tgt := 224) dX12_isRight_199 (by decide) (fun h23 => ?_) (fun h23 => ?_)
              · refine ag_iconst (v := 0) dX12_isRight_224 (by decide) ?_
                exact hk16 false
              · refine ag_iload dX12_isRight_202 rfl ?_
                refine ag_iconst (v := 5) dX12_isRight_204 (by decide) ?_
                refine ag_icmp_ne_v (tgt := 220) dX12_isRight_205 (by decide) (fun h24 => ?_) (fun h24 => ?_)
                · refine ag_iconst (v := 1) dX12_isRight_220 (by decide) ?_
                  refine ag_goto (tgt := 225) dX12_isRight_221 (by decide) ?_
                  exact hk16 true
                · refine ag_iload dX12_isRight_208 rfl ?_
                  refine ag_if_eq_v (tgt := 220) dX12_isRight_210 (by decide) (fun h25 => ?_) (fun h25 => ?_)
                  · refine ag_iconst (v := 1) dX12_isRight_220 (by decide) ?_
                    refine ag_goto (tgt := 225) dX12_isRight_221 (by decide) ?_
                    exact hk16 true
                  · refine ag_iload dX12_isRight_213 rfl ?_
                    refine ag_bipush (v := 32) dX12_isRight_215 (by decide) ?_
                    refine ag_icmp_ne_v (tgt := 224) dX12_isRight_217 (by decide) (fun h26 => ?_) (fun h26 => ?_)
                    · refine ag_iconst (v := 0) dX12_isRight_224 (by decide) ?_
                      exact hk16 false
                    · refine ag_iconst (v := 1) dX12_isRight_220 (by decide) ?_
                      refine ag_goto (tgt := 225) dX12_isRight_221 (by decide) ?_
                      exact hk16 true
      · refine ag_if (fun h27 => ?_) (fun h27 => ?_)
        · refine ag_lk (off := 91) (tgt := 144) dX12_isRight_53 (by decide) (by rw [h27]; decide) (by decide) ?_
          refine ag_iload_n dX12_isRight_144 rfl ?_
          refine ag_bipush (v := 16) dX12_isRight_145 (by decide) ?_
          refine ag_dv (j := 155) (L1 := fun _ => [some (.ref (bs + posM 10 o0)), some (.int v1), some (.int v2), some (.int v3), some (.int v4), some (.int v5), some (.int (b2i v6))]) (st1 := fun v28 => [.int (b2i v28)]) (ws1 := fun _ => vwM cy bs V) (fun v28 => ?_) (fun k30 hk29 => ?_)
          · exact ag_zrp (x := v28) dX12_isRight_155
          · refine ag_icmp_ge_v (tgt := 154) dX12_isRight_147 (by decide) (fun h31 => ?_) (fun h31 => ?_)
            · refine ag_iconst (v := 0) dX12_isRight_154 (by decide) ?_
              exact hk29 false
            · refine ag_iconst (v := 1) dX12_isRight_150 (by decide) ?_
              refine ag_goto (tgt := 155) dX12_isRight_151 (by decide) ?_
              exact hk29 true
        · refine ag_if (fun h32 => ?_) (fun h32 => ?_)
          · refine ag_lk (off := 232) (tgt := 285) dX12_isRight_53 (by decide) (by rw [h32]; decide) (by decide) ?_
            refine ag_iload_n dX12_isRight_285 rfl ?_
            refine ag_bipush (v := 16) dX12_isRight_286 (by decide) ?_
            refine ag_dv (j := 308) (L1 := fun _ => [some (.ref (bs + posM 10 o0)), some (.int v1), some (.int v2), some (.int v3), some (.int v4), some (.int v5), some (.int (b2i v6))]) (st1 := fun v33 => [.int (b2i v33)]) (ws1 := fun _ => vwM cy bs V) (fun v33 => ?_) (fun k35 hk34 => ?_)
            · exact ag_zrp (x := v33) dX12_isRight_308
            · refine ag_icmp_ge_v (tgt := 307) dX12_isRight_288 (by decide) (fun h36 => ?_) (fun h36 => ?_)
              · refine ag_iconst (v := 0) dX12_isRight_307 (by decide) ?_
                exact hk34 false
              · refine ag_iload_n dX12_isRight_291 rfl ?_
                refine ag_bipush (v := 16) dX12_isRight_292 (by decide) ?_
                refine ag_icmp_ge_v (tgt := 307) dX12_isRight_294 (by decide) (fun h37 => ?_) (fun h37 => ?_)
                · refine ag_iconst (v := 0) dX12_isRight_307 (by decide) ?_
                  exact hk34 false
                · refine ag_iload dX12_isRight_297 rfl ?_
                  refine ag_iconst (v := 4) dX12_isRight_299 (by decide) ?_
                  refine ag_icmp_ge_v (tgt := 307) dX12_isRight_300 (by decide) (fun h38 => ?_) (fun h38 => ?_)
                  · refine ag_iconst (v := 0) dX12_isRight_307 (by decide) ?_
                    exact hk34 false
                  · refine ag_iconst (v := 1) dX12_isRight_303 (by decide) ?_
                    refine ag_goto (tgt := 308) dX12_isRight_304 (by decide) ?_
                    exact hk34 true
          · refine ag_if (fun h39 => ?_) (fun h39 => ?_)
            · refine ag_lk (off := 173) (tgt := 226) dX12_isRight_53 (by decide) (by rw [h39]; decide) (by decide) ?_
              refine ag_iload dX12_isRight_226 rfl ?_
              refine ag_dv (j := 266) (L1 := fun _ => [some (.ref (bs + posM 10 o0)), some (.int v1), some (.int v2), some (.int v3), some (.int v4), some (.int v5), some (.int (b2i v6))]) (st1 := fun v40 => [.int (b2i v40)]) (ws1 := fun _ => vwM cy bs V) (fun v40 => ?_) (fun k42 hk41 => ?_)
              · exact ag_zrp (x := v40) dX12_isRight_266
              · refine ag_bif_eq_v (tgt := 265) dX12_isRight_228 (by decide) (fun h43 => ?_) (fun h43 => ?_)
                · refine ag_iconst (v := 0) dX12_isRight_265 (by decide) ?_
                  exact hk41 false
                · refine ag_iload_n dX12_isRight_231 rfl ?_
                  refine ag_bipush (v := 16) dX12_isRight_232 (by decide) ?_
                  refine ag_icmp_ge_v (tgt := 265) dX12_isRight_234 (by decide) (fun h44 => ?_) (fun h44 => ?_)
                  · refine ag_iconst (v := 0) dX12_isRight_265 (by decide) ?_
                    exact hk41 false
                  · refine ag_iload dX12_isRight_237 rfl ?_
                    refine ag_iconst (v := 2) dX12_isRight_239 (by decide) ?_
                    refine ag_icmp_lt_v (tgt := 261) dX12_isRight_240 (by decide) (fun h45 => ?_) (fun h45 => ?_)
                    · refine ag_iconst (v := 1) dX12_isRight_261 (by decide) ?_
                      refine ag_goto (tgt := 266) dX12_isRight_262 (by decide) ?_
                      exact hk41 true
                    · refine ag_iload dX12_isRight_243 rfl ?_
                      refine ag_bipush (v := 32) dX12_isRight_245 (by decide) ?_
                      refine ag_icmp_ne_v (tgt := 265) dX12_isRight_247 (by decide) (fun h46 => ?_) (fun h46 => ?_)
                      · refine ag_iconst (v := 0) dX12_isRight_265 (by decide) ?_
                        exact hk41 false
                      · refine ag_iload dX12_isRight_250 rfl ?_
                        refine ag_if_eq_v (tgt := 261) dX12_isRight_252 (by decide) (fun h47 => ?_) (fun h47 => ?_)
                        · refine ag_iconst (v := 1) dX12_isRight_261 (by decide) ?_
                          refine ag_goto (tgt := 266) dX12_isRight_262 (by decide) ?_
                          exact hk41 true
                        · refine ag_iload dX12_isRight_255 rfl ?_
                          refine ag_iconst (v := 5) dX12_isRight_257 (by decide) ?_
                          refine ag_icmp_ne_v (tgt := 265) dX12_isRight_258 (by decide) (fun h48 => ?_) (fun h48 => ?_)
                          · refine ag_iconst (v := 0) dX12_isRight_265 (by decide) ?_
                            exact hk41 false
                          · refine ag_iconst (v := 1) dX12_isRight_261 (by decide) ?_
                            refine ag_goto (tgt := 266) dX12_isRight_262 (by decide) ?_
                            exact hk41 true
            · refine ag_if (fun h49 => ?_) (fun h49 => ?_)
              · refine ag_lk (off := 91) (tgt := 144) dX12_isRight_53 (by decide) (by rw [h49]; decide) (by decide) ?_
                refine ag_iload_n dX12_isRight_144 rfl ?_
                refine ag_bipush (v := 16) dX12_isRight_145 (by decide) ?_
                refine ag_dv (j := 155) (L1 := fun _ => [some (.ref (bs + posM 10 o0)), some (.int v1), some (.int v2), some (.int v3), some (.int v4), some (.int v5), some (.int (b2i v6))]) (st1 := fun v50 => [.int (b2i v50)]) (ws1 := fun _ => vwM cy bs V) (fun v50 => ?_) (fun k52 hk51 => ?_)
                · exact ag_zrp (x := v50) dX12_isRight_155
                · refine ag_icmp_ge_v (tgt := 154) dX12_isRight_147 (by decide) (fun h53 => ?_) (fun h53 => ?_)
                  · refine ag_iconst (v := 0) dX12_isRight_154 (by decide) ?_
                    exact hk51 false
                  · refine ag_iconst (v := 1) dX12_isRight_150 (by decide) ?_
                    refine ag_goto (tgt := 155) dX12_isRight_151 (by decide) ?_
                    exact hk51 true
              · refine ag_if (fun h54 => ?_) (fun h54 => ?_)
                · refine ag_lk (off := 256) (tgt := 309) dX12_isRight_53 (by decide) (by rw [h54]; decide) (by decide) ?_
                  refine ag_iload dX12_isRight_309 rfl ?_
                  refine ag_bif_eq (tgt := 320) dX12_isRight_311 (by decide) (fun h55 => ?_) (fun h55 => ?_)
                  · refine ag_iconst (v := 0) dX12_isRight_320 (by decide) ?_
                    exact ag_zrp (x := false) dX12_isRight_321
                  · refine ag_iload dX12_isRight_314 rfl ?_
                    refine ag_iconst (v := 3) dX12_isRight_316 (by decide) ?_
                    refine ag_icmp_le (tgt := 322) dX12_isRight_317 (by decide) (fun h56 => ?_) (fun h56 => ?_)
                    · refine ag_iload dX12_isRight_322 rfl ?_
                      refine ag_dv (j := 370) (L1 := fun _ => [some (.ref (bs + posM 10 o0)), some (.int v1), some (.int v2), some (.int v3), some (.int v4), some (.int v5), some (.int (b2i v6))]) (st1 := fun v57 => [.int (b2i v57)]) (ws1 := fun _ => vwM cy bs V) (fun v57 => ?_) (fun k59 hk58 => ?_)
                      · exact ag_zrp (x := v57) dX12_isRight_370
                      · refine ag_if_ne_v (tgt := 348) dX12_isRight_324 (by decide) (fun h60 => ?_) (fun h60 => ?_)
                        · refine ag_iload dX12_isRight_348 rfl ?_
                          refine ag_iconst (v := 1) dX12_isRight_350 (by decide) ?_
                          refine ag_icmp_gt_v (tgt := 365) dX12_isRight_351 (by decide) (fun h61 => ?_) (fun h61 => ?_)
                          · refine ag_iconst (v := 1) dX12_isRight_365 (by decide) ?_
                            refine ag_goto (tgt := 370) dX12_isRight_366 (by decide) ?_
                            exact hk58 true
                          · refine ag_iload dX12_isRight_354 rfl ?_
                            refine ag_if_ne_v (tgt := 369) dX12_isRight_356 (by decide) (fun h62 => ?_) (fun h62 => ?_)
                            · refine ag_iconst (v := 0) dX12_isRight_369 (by decide) ?_
                              exact hk58 false
                            · refine ag_iload_n dX12_isRight_359 rfl ?_
                              refine ag_bipush (v := 13) dX12_isRight_360 (by decide) ?_
                              refine ag_icmp_ge_v (tgt := 369) dX12_isRight_362 (by decide) (fun h63 => ?_) (fun h63 => ?_)
                              · refine ag_iconst (v := 0) dX12_isRight_369 (by decide) ?_
                                exact hk58 false
                              · refine ag_iconst (v := 1) dX12_isRight_365 (by decide) ?_
                                refine ag_goto (tgt := 370) dX12_isRight_366 (by decide) ?_
                                exact hk58 true
                        · refine ag_iload_n dX12_isRight_327 rfl ?_
                          refine ag_bipush (v := 16) dX12_isRight_328 (by decide) ?_
                          refine ag_icmp_ge_v (tgt := 344) dX12_isRight_330 (by decide) (fun h64 => ?_) (fun h64 => ?_)
                          · refine ag_iconst (v := 0) dX12_isRight_344 (by decide) ?_
                            refine ag_goto (tgt := 370) dX12_isRight_345 (by decide) ?_
                            exact hk58 false
                          · refine ag_iload dX12_isRight_333 rfl ?_
                            refine ag_bipush (v := 8) dX12_isRight_335 (by decide) ?_
                            refine ag_icmp_ge_v (tgt := 344) dX12_isRight_337 (by decide) (fun h65 => ?_) (fun h65 => ?_)
                            · refine ag_iconst (v := 0) dX12_isRight_344 (by decide) ?_
                              refine ag_goto (tgt := 370) dX12_isRight_345 (by decide) ?_
                              exact hk58 false
                            · refine ag_iconst (v := 1) dX12_isRight_340 (by decide) ?_
                              refine ag_goto (tgt := 370) dX12_isRight_341 (by decide) ?_
                              exact hk58 true
                    · refine ag_iconst (v := 0) dX12_isRight_320 (by decide) ?_
                      exact ag_zrp (x := false) dX12_isRight_321
                · refine ag_if (fun h66 => ?_) (fun h66 => ?_)
                  · refine ag_lk (off := 103) (tgt := 156) dX12_isRight_53 (by decide) (by rw [h66]; decide) (by decide) ?_
                    refine ag_iload_n dX12_isRight_156 rfl ?_
                    refine ag_bipush (v := 16) dX12_isRight_157 (by decide) ?_
                    refine ag_dv (j := 185) (L1 := fun _ => [some (.ref (bs + posM 10 o0)), some (.int v1), some (.int v2), some (.int v3), some (.int v4), some (.int v5), some (.int (b2i v6))]) (st1 := fun v67 => [.int (b2i v67)]) (ws1 := fun _ => vwM cy bs V) (fun v67 => ?_) (fun k69 hk68 => ?_)
                    · exact ag_zrp (x := v67) dX12_isRight_185
                    · refine ag_icmp_ge_v (tgt := 184) dX12_isRight_159 (by decide) (fun h70 => ?_) (fun h70 => ?_)
                      · refine ag_iconst (v := 0) dX12_isRight_184 (by decide) ?_
                        exact hk68 false
                      · refine ag_iload_n dX12_isRight_162 rfl ?_
                        refine ag_bipush (v := 16) dX12_isRight_163 (by decide) ?_
                        refine ag_icmp_ge_v (tgt := 184) dX12_isRight_165 (by decide) (fun h71 => ?_) (fun h71 => ?_)
                        · refine ag_iconst (v := 0) dX12_isRight_184 (by decide) ?_
                          exact hk68 false
                        · refine ag_iload dX12_isRight_168 rfl ?_
                          refine ag_iconst (v := 2) dX12_isRight_170 (by decide) ?_
                          refine ag_icmp_eq_v (tgt := 184) dX12_isRight_171 (by decide) (fun h72 => ?_) (fun h72 => ?_)
                          · refine ag_iconst (v := 0) dX12_isRight_184 (by decide) ?_
                            exact hk68 false
                          · refine ag_iload dX12_isRight_174 rfl ?_
                            refine ag_iconst (v := 3) dX12_isRight_176 (by decide) ?_
                            refine ag_icmp_eq_v (tgt := 184) dX12_isRight_177 (by decide) (fun h73 => ?_) (fun h73 => ?_)
                            · refine ag_iconst (v := 0) dX12_isRight_184 (by decide) ?_
                              exact hk68 false
                            · refine ag_iconst (v := 1) dX12_isRight_180 (by decide) ?_
                              refine ag_goto (tgt := 185) dX12_isRight_181 (by decide) ?_
                              exact hk68 true
                  · refine ag_if (fun h74 => ?_) (fun h74 => ?_)
                    · refine ag_lk (off := 318) (tgt := 371) dX12_isRight_53 (by decide) (by rw [h74]; decide) (by decide) ?_
                      refine ag_iload dX12_isRight_371 rfl ?_
                      refine ag_dv (j := 386) (L1 := fun _ => [some (.ref (bs + posM 10 o0)), some (.int v1), some (.int v2), some (.int v3), some (.int v4), some (.int v5), some (.int (b2i v6))]) (st1 := fun v75 => [.int (b2i v75)]) (ws1 := fun _ => vwM cy bs V) (fun v75 => ?_) (fun k77 hk76 => ?_)
                      · exact ag_zrp (x := v75) dX12_isRight_386
                      · refine ag_bif_eq_v (tgt := 385) dX12_isRight_373 (by decide) (fun h78 => ?_) (fun h78 => ?_)
                        · refine ag_iconst (v := 0) dX12_isRight_385 (by decide) ?_
                          exact hk76 false
                        · refine ag_iload dX12_isRight_376 rfl ?_
                          refine ag_if_ne_v (tgt := 385) dX12_isRight_378 (by decide) (fun h79 => ?_) (fun h79 => ?_)
                          · refine ag_iconst (v := 0) dX12_isRight_385 (by decide) ?_
                            exact hk76 false
                          · refine ag_iconst (v := 1) dX12_isRight_381 (by decide) ?_
                            refine ag_goto (tgt := 386) dX12_isRight_382 (by decide) ?_
                            exact hk76 true
                    · refine ag_if (fun h80 => ?_) (fun h80 => ?_)
                      · refine ag_lk (off := 91) (tgt := 144) dX12_isRight_53 (by decide) (by rw [h80]; decide) (by decide) ?_
                        refine ag_iload_n dX12_isRight_144 rfl ?_
                        refine ag_bipush (v := 16) dX12_isRight_145 (by decide) ?_
                        refine ag_dv (j := 155) (L1 := fun _ => [some (.ref (bs + posM 10 o0)), some (.int v1), some (.int v2), some (.int v3), some (.int v4), some (.int v5), some (.int (b2i v6))]) (st1 := fun v81 => [.int (b2i v81)]) (ws1 := fun _ => vwM cy bs V) (fun v81 => ?_) (fun k83 hk82 => ?_)
                        · exact ag_zrp (x := v81) dX12_isRight_155
                        · refine ag_icmp_ge_v (tgt := 154) dX12_isRight_147 (by decide) (fun h84 => ?_) (fun h84 => ?_)
                          · refine ag_iconst (v := 0) dX12_isRight_154 (by decide) ?_
                            exact hk82 false
                          · refine ag_iconst (v := 1) dX12_isRight_150 (by decide) ?_
                            refine ag_goto (tgt := 155) dX12_isRight_151 (by decide) ?_
                            exact hk82 true
                      · refine ag_lk (off := 334) (tgt := 387) dX12_isRight_53 (by decide) (by show Op.lookupswitch.offset [(3, 214), (19, 133), (23, 91), (35, 232), (51, 173), (55, 91), (91, 256), (99, 103), (103, 318), (111, 91)] 334 _ = _; rw [lv_osw h8 (k := 3) (by decide), lv_osw h14 (k := 19) (by decide), lv_osw h27 (k := 23) (by decide), lv_osw h32 (k := 35) (by decide), lv_osw h39 (k := 51) (by decide), lv_osw h49 (k := 55) (by decide), lv_osw h54 (k := 91) (by decide), lv_osw h66 (k := 99) (by decide), lv_osw h74 (k := 103) (by decide), lv_osw h80 (k := 111) (by decide)]; rfl) (by decide) ?_
                        refine ag_iconst (v := 0) dX12_isRight_387 (by decide) ?_
                        exact ag_zrp (x := false) dX12_isRight_388
  · refine ag_icmp_ge_v (tgt := 43) dX12_isRight_30 (by decide) (fun h86 => ?_) (fun h86 => ?_)
    · refine ag_iconst (v := 0) dX12_isRight_43 (by decide) ?_
      exact hk7 false
    · refine ag_iload_n dX12_isRight_33 rfl ?_
      refine ag_bipush (v := 16) dX12_isRight_34 (by decide) ?_
      refine ag_icmp_ge_v (tgt := 43) dX12_isRight_36 (by decide) (fun h87 => ?_) (fun h87 => ?_)
      · refine ag_iconst (v := 0) dX12_isRight_43 (by decide) ?_
        exact hk7 false
      · refine ag_iconst (v := 1) dX12_isRight_39 (by decide) ?_
        refine ag_goto (tgt := 44) dX12_isRight_40 (by decide) ?_
        exact hk7 true
set_option maxRecDepth 100000 in
set_option maxHeartbeats 4000000 in
theorem c_X12_link {l : Launch} {D : va_G} {cy : Nat → ClassId} {bs : Nat} {V : HV} (o0 : Nat) (ho0 : o0 < 1) {z : HV} (hz : f_X12_link o0 V = some z) : CM l (aG 57 bs) D (tyL cy) (vwM cy bs) yX12_link cX12_link 1 none 2 49 tvV [.ref (bs + posM 10 o0)] V ((), z) := by
  refine cm_of vwM_D (by decide +kernel) (own := RX12) rfl (Nat.le_of_ble_eq_true rfl) (L := [some (.ref (bs + posM 10 o0))]) rfl hz (fun Γ => ?_)
  unfold f_X12_link
  refine ag_aload_n dX12_link_0 rfl ?_
  refine ag_aload_n dX12_link_1 rfl ?_
  refine ag_ivIp (c_X12_pcc o0 ho0 rfl) vwM_D (vwM_at (kpM_10 _ ho0)) rfl cs_X12_339 rfl rfl (Nat.le_of_ble_eq_true rfl) ⟨by decide, by decide⟩ ⟨Nat.zero_le _, Nat.zero_le _⟩ dX12_link_2 ?_
  refine ag_ltI (fun v1 => ?_)
  refine ag_sipush (v := 582) dX12_link_5 (by decide) ?_
  refine ag_bnd (fun p2 hp2 => ?_)
  refine ag_ivVe (c_X12_copy o0 v1 582 ho0 hp2) vwM_D (vwM_at (kpM_10 _ ho0)) rfl cs_X12_336 rfl rfl (Nat.le_of_ble_eq_true rfl) ⟨by decide, by decide⟩ ⟨Nat.zero_le _, Nat.zero_le _⟩ dX12_link_8 ?_
  refine ag_aload_n dX12_link_11 rfl ?_
  refine gM_X12_cursor ho0 fl_X12_7 dX12_link_12 ?_
  refine ag_sipush (v := 582) dX12_link_15 (by decide) ?_
  refine ag_dup2 dX12_link_18 rfl rfl ?_
  refine ag_chk (fun h3 => ?_)
  refine aM_24 (by decide) h3 dX12_link_19 ?_
  refine ag_iconst (v := 4) dX12_link_20 (by decide) ?_
  refine ag_iadd dX12_link_21 ?_
  refine ag_chk (fun h4 => ?_)
  refine sM_24 (by decide) h4 dX12_link_22 ?_
  refine ag_ltV (fun V5 => ?_)
  refine ag_aload_n dX12_link_23 rfl ?_
  refine gM_X12_type ho0 fl_X12_22 dX12_link_24 ?_
  refine ag_sipush (v := 582) dX12_link_27 (by decide) ?_
  refine ag_aload_n dX12_link_30 rfl ?_
  refine gM_X12_on ho0 fl_X12_76 dX12_link_31 ?_
  refine ag_aload_n dX12_link_34 rfl ?_
  refine gM_X12_t0 ho0 fl_X12_330 dX12_link_35 ?_
  refine ag_chk (fun h6 => ?_)
  refine aM_52 (by decide) h6 dX12_link_38 ?_
  refine ag_dv (j := 47) (L1 := fun _ => [some (.ref (bs + posM 10 o0))]) (st1 := fun v7 => [.int v7, .int 582, .ref (bs + posM 28 0)]) (ws1 := fun _ => vwM cy bs V5) (fun v7 => ?_) (fun k11 hk8 => ?_)
  · refine ag_chk (fun h9 => ?_)
    refine sM_28 (by decide) h9 dX12_link_47 ?_
    refine ag_ltV (fun V10 => ?_)
    exact ag_vrep dX12_link_48
  · refine ag_bif_eq_v (tgt := 46) dX12_link_39 (by decide) (fun h12 => ?_) (fun h12 => ?_)
    · refine ag_iconst (v := 2) dX12_link_46 (by decide) ?_
      exact hk8 2
    · refine ag_iconst (v := 3) dX12_link_42 (by decide) ?_
      refine ag_goto (tgt := 47) dX12_link_43 (by decide) ?_
      exact hk8 3
set_option maxRecDepth 100000 in
set_option maxHeartbeats 4000000 in
theorem c_X12_branches {l : Launch} {D : va_G} {cy : Nat → ClassId} {bs : Nat} {V : HV} (x0 : Int32) (x1 : Int32) (x2 : Int32) {z : Bool} (hz : f_X12_branches x0 x1 x2 = z) : CM l (aG 57 bs) D (tyL cy) (vwM cy bs) yX12_branches cX12_branches 3 (some .boolean) 1 20 tvZ [.int x0, .int x1, .int x2] V (z, V) := by
  refine cm_of vwM_D (by decide +kernel) (own := RX12) rfl (Nat.le_of_ble_eq_true rfl) (L := [some (.int x0), some (.int x1), some (.int x2)]) rfl hz (fun Γ => ?_)
  unfold f_X12_branches
  refine ag_iload_n dX12_branches_0 rfl ?_
  refine ag_if (fun h1 => ?_) (fun h1 => ?_)
  · refine ag_tab (off := 43) (tgt := 44) h1 dX12_branches_1 (by decide) (by decide) (by decide) (by decide) ?_
    refine ag_iload_n dX12_branches_44 rfl ?_
    refine ag_iload_n dX12_branches_45 rfl ?_
    refine ag_dv (j := 54) (L1 := fun _ => [some (.int x0), some (.int x1), some (.int x2)]) (st1 := fun v2 => [.int (b2i v2)]) (ws1 := fun _ => vwM cy bs V) (fun v2 => ?_) (fun k4 hk3 => ?_)
    · exact ag_zrp (x := v2) dX12_branches_54
    · refine ag_icmp_ne_v (tgt := 53) dX12_branches_46 (by decide) (fun h5 => ?_) (fun h5 => ?_)
      · refine ag_iconst (v := 0) dX12_branches_53 (by decide) ?_
        exact hk3 false
      · refine ag_iconst (v := 1) dX12_branches_49 (by decide) ?_
        refine ag_goto (tgt := 54) dX12_branches_50 (by decide) ?_
        exact hk3 true
  · refine ag_if (fun h6 => ?_) (fun h6 => ?_)
    · refine ag_tab (off := 54) (tgt := 55) h6 dX12_branches_1 (by decide) (by decide) (by decide) (by decide) ?_
      refine ag_iload_n dX12_branches_55 rfl ?_
      refine ag_iload_n dX12_branches_56 rfl ?_
      refine ag_dv (j := 65) (L1 := fun _ => [some (.int x0), some (.int x1), some (.int x2)]) (st1 := fun v7 => [.int (b2i v7)]) (ws1 := fun _ => vwM cy bs V) (fun v7 => ?_) (fun k9 hk8 => ?_)
      · exact ag_zrp (x := v7) dX12_branches_65
      · refine ag_icmp_eq_v (tgt := 64) dX12_branches_57 (by decide) (fun h10 => ?_) (fun h10 => ?_)
        · refine ag_iconst (v := 0) dX12_branches_64 (by decide) ?_
          exact hk8 false
        · refine ag_iconst (v := 1) dX12_branches_60 (by decide) ?_
          refine ag_goto (tgt := 65) dX12_branches_61 (by decide) ?_
          exact hk8 true
    · refine ag_if (fun h11 => ?_) (fun h11 => ?_)
      · refine ag_tab (off := 65) (tgt := 66) h11 dX12_branches_1 (by decide) (by decide) (by decide) (by decide) ?_
        refine ag_iload_n dX12_branches_66 rfl ?_
        refine ag_iload_n dX12_branches_67 rfl ?_
        refine ag_dv (j := 76) (L1 := fun _ => [some (.int x0), some (.int x1), some (.int x2)]) (st1 := fun v12 => [.int (b2i v12)]) (ws1 := fun _ => vwM cy bs V) (fun v12 => ?_) (fun k14 hk13 => ?_)
        · exact ag_zrp (x := v12) dX12_branches_76
        · refine ag_icmp_ge_v (tgt := 75) dX12_branches_68 (by decide) (fun h15 => ?_) (fun h15 => ?_)
          · refine ag_iconst (v := 0) dX12_branches_75 (by decide) ?_
            exact hk13 false
          · refine ag_iconst (v := 1) dX12_branches_71 (by decide) ?_
            refine ag_goto (tgt := 76) dX12_branches_72 (by decide) ?_
            exact hk13 true
      · refine ag_if (fun h16 => ?_) (fun h16 => ?_)
        · refine ag_tab (off := 76) (tgt := 77) h16 dX12_branches_1 (by decide) (by decide) (by decide) (by decide) ?_
          refine ag_iload_n dX12_branches_77 rfl ?_
          refine ag_iload_n dX12_branches_78 rfl ?_
          refine ag_dv (j := 87) (L1 := fun _ => [some (.int x0), some (.int x1), some (.int x2)]) (st1 := fun v17 => [.int (b2i v17)]) (ws1 := fun _ => vwM cy bs V) (fun v17 => ?_) (fun k19 hk18 => ?_)
          · exact ag_zrp (x := v17) dX12_branches_87
          · refine ag_icmp_lt_v (tgt := 86) dX12_branches_79 (by decide) (fun h20 => ?_) (fun h20 => ?_)
            · refine ag_iconst (v := 0) dX12_branches_86 (by decide) ?_
              exact hk18 false
            · refine ag_iconst (v := 1) dX12_branches_82 (by decide) ?_
              refine ag_goto (tgt := 87) dX12_branches_83 (by decide) ?_
              exact hk18 true
        · refine ag_if (fun h21 => ?_) (fun h21 => ?_)
          · refine ag_tab (off := 87) (tgt := 88) h21 dX12_branches_1 (by decide) (by decide) (by decide) (by decide) ?_
            refine ag_iload_n dX12_branches_88 rfl ?_
            refine ag_isJp (c_X12_plain x1  rfl) vwM_D cs_X12_260 rfl rfl (Nat.le_of_ble_eq_true rfl) ⟨by decide, by decide⟩ ⟨Nat.zero_le _, Nat.zero_le _⟩ dX12_branches_89 ?_
            refine ag_ltJ (fun v22 => ?_)
            refine ag_iload_n dX12_branches_92 rfl ?_
            refine ag_isJp (c_X12_plain x2  rfl) vwM_D cs_X12_260 rfl rfl (Nat.le_of_ble_eq_true rfl) ⟨by decide, by decide⟩ ⟨Nat.zero_le _, Nat.zero_le _⟩ dX12_branches_93 ?_
            refine ag_ltJ (fun v23 => ?_)
            refine ag_lcmp dX12_branches_96 ?_
            refine ag_dv (j := 105) (L1 := fun _ => [some (.int x0), some (.int x1), some (.int x2)]) (st1 := fun v24 => [.int (b2i v24)]) (ws1 := fun _ => vwM cy bs V) (fun v24 => ?_) (fun k26 hk25 => ?_)
            · exact ag_zrp (x := v24) dX12_branches_105
            · refine ag_if_ge_v (tgt := 104) dX12_branches_97 (by decide) (fun h27 => ?_) (fun h27 => ?_)
              · refine ag_iconst (v := 0) dX12_branches_104 (by decide) ?_
                exact hk25 false
              · refine ag_iconst (v := 1) dX12_branches_100 (by decide) ?_
                refine ag_goto (tgt := 105) dX12_branches_101 (by decide) ?_
                exact hk25 true
          · refine ag_hv (j := 106) (L1 := [some (.int x0), some (.int x1), some (.int x2)]) (st1 := []) (ws1 := vwM cy bs V) ?_ (fun hd35 => ?_)
            · refine ag_iload_n dX12_branches_106 rfl ?_
              refine ag_isJp (c_X12_plain x1  rfl) vwM_D cs_X12_260 rfl rfl (Nat.le_of_ble_eq_true rfl) ⟨by decide, by decide⟩ ⟨Nat.zero_le _, Nat.zero_le _⟩ dX12_branches_107 ?_
              refine ag_ltJ (fun v28 => ?_)
              refine ag_iload_n dX12_branches_110 rfl ?_
              refine ag_isJp (c_X12_plain x2  rfl) vwM_D cs_X12_260 rfl rfl (Nat.le_of_ble_eq_true rfl) ⟨by decide, by decide⟩ ⟨Nat.zero_le _, Nat.zero_le _⟩ dX12_branches_111 ?_
              refine ag_ltJ (fun v29 => ?_)
              refine ag_lcmp dX12_branches_114 ?_
              refine ag_dv (j := 123) (L1 := fun _ => [some (.int x0), some (.int x1), some (.int x2)]) (st1 := fun v30 => [.int (b2i v30)]) (ws1 := fun _ => vwM cy bs V) (fun v30 => ?_) (fun k32 hk31 => ?_)
              · exact ag_zrp (x := v30) dX12_branches_123
              · refine ag_if_lt_v (tgt := 122) dX12_branches_115 (by decide) (fun h33 => ?_) (fun h33 => ?_)
                · refine ag_iconst (v := 0) dX12_branches_122 (by decide) ?_
                  exact hk31 false
                · refine ag_iconst (v := 1) dX12_branches_118 (by decide) ?_
                  refine ag_goto (tgt := 123) dX12_branches_119 (by decide) ?_
                  exact hk31 true
            · by_cases h36 : x0 = 2
              · exact ag_tab (off := 105) (tgt := 106) h36 dX12_branches_1 (by decide) (by decide) (by decide) (by decide) hd35
              · by_cases h37 : x0 = 3
                · exact ag_tab (off := 105) (tgt := 106) h37 dX12_branches_1 (by decide) (by decide) (by decide) (by decide) hd35
                · exact ag_tabD (tgt := 106) dX12_branches_1 (by have z0 := lv_neT h1 (k := 0) (a := 0) (by decide); have z1 := lv_neT h6 (k := 1) (a := 1) (by decide); have z2 := lv_neT h11 (k := 4) (a := 4) (by decide); have z3 := lv_neT h16 (k := 5) (a := 5) (by decide); have z4 := lv_neT h21 (k := 6) (a := 6) (by decide); have z5 := lv_neT h36 (k := 2) (a := 2) (by decide); have z6 := lv_neT h37 (k := 3) (a := 3) (by decide); omega) (by decide) hd35
