set_option maxRecDepth 100000 in
set_option maxHeartbeats 4000000 in
theorem c_X12_seals {l : Launch} {D : va_G} {cy : Nat → ClassId} {bs : Nat} {V : HV} (o0 : Nat) (x1 : Int32) (x2 : Int32) (x3 : Bool) (ho0 : o0 < 1) {z : HV} (hz : f_X12_seals o0 x1 x2 x3 V = some z) : CM l (aG 57 bs) D (tyL cy) (vwM cy bs) yX12_seals cX12_seals 7 none 1 20 tvV [.ref (bs + posM 10 o0), .int x1, .int x2, .int (b2i x3)] V ((), z) := by
  refine cm_of vwM_D (by decide +kernel) (own := RX12) rfl (Nat.le_of_ble_eq_true rfl) (L := [some (.ref (bs + posM 10 o0)), some (.int x1), some (.int x2), some (.int (b2i x3)), none, none, none]) rfl hz (fun Γ => ?_)
  unfold f_X12_seals
  refine ag_aload_n dX12_seals_0 rfl ?_
  refine gM_X12_cursor ho0 fl_X12_7 dX12_seals_1 ?_
  refine ag_iload_n dX12_seals_4 rfl ?_
  refine ag_chk (fun h1 => ?_)
  refine aM_24 (by decide) h1 dX12_seals_5 ?_
  refine ag_isJp (c_X12_plain (V 2400 0 (x2).toNatClampNeg)  rfl) vwM_D cs_X12_260 rfl rfl (Nat.le_of_ble_eq_true rfl) ⟨by decide, by decide⟩ ⟨Nat.zero_le _, Nat.zero_le _⟩ dX12_seals_6 ?_
  refine ag_ltJ (fun v2 => ?_)
  refine ag_lstore (L' := [some (.ref (bs + posM 10 o0)), some (.int x1), some (.int x2), some (.int (b2i x3)), some (.long v2), none, none]) dX12_seals_9 (by decide) rfl ?_
  refine ag_aload_n dX12_seals_11 rfl ?_
  refine gM_X12_tag ho0 fl_X12_25 dX12_seals_12 ?_
  refine ag_iload_n dX12_seals_15 rfl ?_
  refine ag_chk (fun h3 => ?_)
  refine aM_29 (by decide) h3 dX12_seals_16 ?_
  refine ag_jn1 (j := 94) (L1 := fun v4 => [some (.ref (bs + posM 10 o0)), some (.int x1), some (.int x2), some (.int (b2i x3)), some (.long v2), none, none]) (st1 := fun v4 => [.int (b2i v4)]) (ws1 := fun v4 => vwM cy bs V) (fun v4 => ?_) (fun k5 hk6 => ?_)
  · refine ag_istore (L' := [some (.ref (bs + posM 10 o0)), some (.int x1), some (.int x2), some (.int (b2i x3)), some (.long v2), none, some (.int (b2i v4))]) dX12_seals_94 (by decide) rfl ?_
    refine ag_aload_n dX12_seals_96 rfl ?_
    refine ag_ivIp (c_X12_g o0 ho0 rfl) vwM_D (vwM_at (kpM_10 _ ho0)) rfl cs_X12_355 rfl rfl (Nat.le_of_ble_eq_true rfl) ⟨by decide, by decide⟩ ⟨Nat.zero_le _, Nat.zero_le _⟩ dX12_seals_97 ?_
    refine ag_ltI (fun v7 => ?_)
    refine ag_iconst (v := 4) dX12_seals_100 (by decide) ?_
    refine ag_icmp_ne (tgt := 152) dX12_seals_101 (by decide) (fun h8 => ?_) (fun h8 => ?_)
    · refine ag_aload_n dX12_seals_152 rfl ?_
      refine gM_X12_tag ho0 fl_X12_25 dX12_seals_153 ?_
      refine ag_sipush (v := 582) dX12_seals_156 (by decide) ?_
      refine ag_aload_n dX12_seals_159 rfl ?_
      refine gM_X12_tag ho0 fl_X12_25 dX12_seals_160 ?_
      refine ag_iload_n dX12_seals_163 rfl ?_
      refine ag_chk (fun h9 => ?_)
      refine aM_29 (by decide) h9 dX12_seals_164 ?_
      refine ag_jn1 (j := 193) (L1 := fun v10 => [some (.ref (bs + posM 10 o0)), some (.int x1), some (.int x2), some (.int (b2i x3)), some (.long v2), none, some (.int (b2i v4))]) (st1 := fun v10 => [.int (b2i v10), .int 582, .ref (bs + posM 29 0)]) (ws1 := fun v10 => vwM cy bs V) (fun v10 => ?_) (fun k11 hk12 => ?_)
      · refine ag_chk (fun h13 => ?_)
        refine sM_29 (x := v10) (by decide) h13 dX12_seals_193 ?_
        refine ag_ltV (fun V14 => ?_)
        refine ag_aload_n dX12_seals_194 rfl ?_
        refine gM_X12_tag ho0 fl_X12_25 dX12_seals_195 ?_
        refine ag_sipush (v := 582) dX12_seals_198 (by decide) ?_
        refine ag_chk (fun h15 => ?_)
        refine aM_29 (by decide) h15 dX12_seals_201 ?_
        refine ag_bif_ne (tgt := 206) dX12_seals_202 (by decide) (fun h16 => ?_) (fun h16 => ?_)
        · refine ag_aload_n dX12_seals_206 rfl ?_
          refine gM_X12_type ho0 fl_X12_22 dX12_seals_207 ?_
          refine ag_sipush (v := 582) dX12_seals_210 (by decide) ?_
          refine ag_iconst (v := 0) dX12_seals_213 (by decide) ?_
          refine ag_chk (fun h17 => ?_)
          refine sM_28 (by decide) h17 dX12_seals_214 ?_
          refine ag_ltV (fun V18 => ?_)
          refine ag_aload_n dX12_seals_215 rfl ?_
          refine gM_X12_perms ho0 fl_X12_19 dX12_seals_216 ?_
          refine ag_iload_n dX12_seals_219 rfl ?_
          refine ag_chk (fun h19 => ?_)
          refine aM_27 (by decide) h19 dX12_seals_220 ?_
          refine ag_bipush (v := 64) dX12_seals_221 (by decide) ?_
          refine ag_iand dX12_seals_223 ?_
          refine ag_if_ne (tgt := 240) dX12_seals_224 (by decide) (fun h20 => ?_) (fun h20 => ?_)
          · exact ag_vrep dX12_seals_240
          · refine ag_aload_n dX12_seals_227 rfl ?_
            refine gM_X12_perms ho0 fl_X12_19 dX12_seals_228 ?_
            refine ag_sipush (v := 582) dX12_seals_231 (by decide) ?_
            refine ag_dup2 dX12_seals_234 rfl rfl ?_
            refine ag_chk (fun h21 => ?_)
            refine aM_27 (by decide) h21 dX12_seals_235 ?_
            refine ag_bipush (v := (-65)) dX12_seals_236 (by decide) ?_
            refine ag_iand dX12_seals_238 ?_
            refine ag_chk (fun h22 => ?_)
            refine sM_27 (by decide) h22 dX12_seals_239 ?_
            refine ag_ltV (fun V23 => ?_)
            exact ag_vrep dX12_seals_240
        · exact ag_vrep dX12_seals_205
      · refine ag_jn0 (j := 192) (L1 := [some (.ref (bs + posM 10 o0)), some (.int x1), some (.int x2), some (.int (b2i x3)), some (.long v2), none, some (.int (b2i v4))]) (st1 := [.int 582, .ref (bs + posM 29 0)]) (ws1 := vwM cy bs V) (?_) (fun k24 hk25 => ?_)
        · refine ag_iconst (v := 0) dX12_seals_192 (by decide) ?_
          exact hk12 false
        · refine ag_bif_eq (tgt := 192) dX12_seals_165 (by decide) (fun h26 => ?_) (fun h26 => ?_)
          · exact hk25
          · refine ag_iload dX12_seals_168 rfl ?_
            refine ag_bif_eq (tgt := 192) dX12_seals_170 (by decide) (fun h27 => ?_) (fun h27 => ?_)
            · exact hk25
            · refine ag_aload_n dX12_seals_173 rfl ?_
              refine gM_X12_type ho0 fl_X12_22 dX12_seals_174 ?_
              refine ag_iload_n dX12_seals_177 rfl ?_
              refine ag_chk (fun h28 => ?_)
              refine aM_28 (by decide) h28 dX12_seals_178 ?_
              refine ag_aload_n dX12_seals_179 rfl ?_
              refine gM_X12_cursor ho0 fl_X12_7 dX12_seals_180 ?_
              refine ag_iload_n dX12_seals_183 rfl ?_
              refine ag_chk (fun h29 => ?_)
              refine aM_24 (by decide) h29 dX12_seals_184 ?_
              refine ag_icmp_ne (tgt := 192) dX12_seals_185 (by decide) (fun h30 => ?_) (fun h30 => ?_)
              · exact hk25
              · refine ag_iconst (v := 1) dX12_seals_188 (by decide) ?_
                refine ag_goto (tgt := 193) dX12_seals_189 (by decide) ?_
                exact hk12 true
    · refine ag_aload_n dX12_seals_104 rfl ?_
      refine gM_X12_tag ho0 fl_X12_25 dX12_seals_105 ?_
      refine ag_sipush (v := 582) dX12_seals_108 (by decide) ?_
      refine ag_iload_n dX12_seals_111 rfl ?_
      refine ag_dv (j := 125) (L1 := fun _ => [some (.ref (bs + posM 10 o0)), some (.int x1), some (.int x2), some (.int (b2i x3)), some (.long v2), none, some (.int (b2i v4))]) (st1 := fun v31 => [.int (b2i v31), .int 582, .ref (bs + posM 29 0)]) (ws1 := fun _ => vwM cy bs V) (fun v31 => ?_) (fun k40 hk32 => ?_)
      · refine ag_chk (fun h33 => ?_)
        refine sM_29 (x := v31) (by decide) h33 dX12_seals_125 ?_
        refine ag_ltV (fun V34 => ?_)
        refine ag_aload_n dX12_seals_126 rfl ?_
        refine gM_X12_tag ho0 fl_X12_25 dX12_seals_127 ?_
        refine ag_sipush (v := 582) dX12_seals_130 (by decide) ?_
        refine ag_chk (fun h35 => ?_)
        refine aM_29 (by decide) h35 dX12_seals_133 ?_
        refine ag_bif_eq (tgt := 151) dX12_seals_134 (by decide) (fun h36 => ?_) (fun h36 => ?_)
        · exact ag_vrep dX12_seals_151
        · refine ag_aload_n dX12_seals_137 rfl ?_
          refine gM_X12_type ho0 fl_X12_22 dX12_seals_138 ?_
          refine ag_sipush (v := 582) dX12_seals_141 (by decide) ?_
          refine ag_aload_n dX12_seals_144 rfl ?_
          refine gM_X12_cursor ho0 fl_X12_7 dX12_seals_145 ?_
          refine ag_iload_n dX12_seals_148 rfl ?_
          refine ag_chk (fun h37 => ?_)
          refine aM_24 (by decide) h37 dX12_seals_149 ?_
          refine ag_chk (fun h38 => ?_)
          refine sM_28 (by decide) h38 dX12_seals_150 ?_
          refine ag_ltV (fun V39 => ?_)
          exact ag_vrep dX12_seals_151
      · refine ag_bif_eq_v (tgt := 124) dX12_seals_112 (by decide) (fun h41 => ?_) (fun h41 => ?_)
        · refine ag_iconst (v := 0) dX12_seals_124 (by decide) ?_
          exact hk32 false
        · refine ag_iload dX12_seals_115 rfl ?_
          refine ag_bif_eq_v (tgt := 124) dX12_seals_117 (by decide) (fun h42 => ?_) (fun h42 => ?_)
          · refine ag_iconst (v := 0) dX12_seals_124 (by decide) ?_
            exact hk32 false
          · refine ag_iconst (v := 1) dX12_seals_120 (by decide) ?_
            refine ag_goto (tgt := 125) dX12_seals_121 (by decide) ?_
            exact hk32 true
  · refine ag_jn0 (j := 93) (L1 := [some (.ref (bs + posM 10 o0)), some (.int x1), some (.int x2), some (.int (b2i x3)), some (.long v2), none, none]) (st1 := []) (ws1 := vwM cy bs V) (?_) (fun k43 hk44 => ?_)
    · refine ag_iconst (v := 0) dX12_seals_93 (by decide) ?_
      exact hk6 false
    · refine ag_bif_eq (tgt := 93) dX12_seals_17 (by decide) (fun h45 => ?_) (fun h45 => ?_)
      · exact hk44
      · refine ag_aload_n dX12_seals_20 rfl ?_
        refine gM_X12_type ho0 fl_X12_22 dX12_seals_21 ?_
        refine ag_iload_n dX12_seals_24 rfl ?_
        refine ag_chk (fun h46 => ?_)
        refine aM_28 (by decide) h46 dX12_seals_25 ?_
        refine ag_if_ne (tgt := 93) dX12_seals_26 (by decide) (fun h47 => ?_) (fun h47 => ?_)
        · exact hk44
        · refine ag_aload_n dX12_seals_29 rfl ?_
          refine gM_X12_perms ho0 fl_X12_19 dX12_seals_30 ?_
          refine ag_iload_n dX12_seals_33 rfl ?_
          refine ag_chk (fun h48 => ?_)
          refine aM_27 (by decide) h48 dX12_seals_34 ?_
          refine ag_bipush (v := 32) dX12_seals_35 (by decide) ?_
          refine ag_iand dX12_seals_37 ?_
          refine ag_if_eq (tgt := 93) dX12_seals_38 (by decide) (fun h49 => ?_) (fun h49 => ?_)
          · exact hk44
          · refine ag_lload dX12_seals_41 rfl ?_
            refine ag_aload_n dX12_seals_43 rfl ?_
            refine gM_X12_base ho0 fl_X12_13 dX12_seals_44 ?_
            refine ag_iload_n dX12_seals_47 rfl ?_
            refine ag_chk (fun h50 => ?_)
            refine aM_25 (by decide) h50 dX12_seals_48 ?_
            refine ag_isJp (c_X12_plain (V 2500 0 (x2).toNatClampNeg)  rfl) vwM_D cs_X12_260 rfl rfl (Nat.le_of_ble_eq_true rfl) ⟨by decide, by decide⟩ ⟨Nat.zero_le _, Nat.zero_le _⟩ dX12_seals_49 ?_
            refine ag_ltJ (fun v51 => ?_)
            refine ag_lcmp dX12_seals_52 ?_
            refine ag_if_lt (tgt := 93) dX12_seals_53 (by decide) (fun h52 => ?_) (fun h52 => ?_)
            · exact hk44
            · refine ag_lload dX12_seals_56 rfl ?_
              refine ag_aload_n dX12_seals_58 rfl ?_
              refine gM_X12_top ho0 fl_X12_16 dX12_seals_59 ?_
              refine ag_iload_n dX12_seals_62 rfl ?_
              refine ag_chk (fun h53 => ?_)
              refine aM_26 (by decide) h53 dX12_seals_63 ?_
              refine ag_isJp (c_X12_plain (V 2600 0 (x2).toNatClampNeg)  rfl) vwM_D cs_X12_260 rfl rfl (Nat.le_of_ble_eq_true rfl) ⟨by decide, by decide⟩ ⟨Nat.zero_le _, Nat.zero_le _⟩ dX12_seals_64 ?_
              refine ag_ltJ (fun v54 => ?_)
              refine ag_lcmp dX12_seals_67 ?_
              refine ag_if_ge (tgt := 93) dX12_seals_68 (by decide) (fun h55 => ?_) (fun h55 => ?_)
              · exact hk44
              · refine ag_lload dX12_seals_71 rfl ?_
                refine ag_ldc2 kc_X12_440 dX12_seals_73 ?_
                refine ag_lcmp dX12_seals_76 ?_
                refine ag_if_lt (tgt := 93) dX12_seals_77 (by decide) (fun h56 => ?_) (fun h56 => ?_)
                · exact hk44
                · refine ag_lload dX12_seals_80 rfl ?_
                  refine ag_ldc2 kc_X12_442 dX12_seals_82 ?_
                  refine ag_lcmp dX12_seals_85 ?_
                  refine ag_if_gt (tgt := 93) dX12_seals_86 (by decide) (fun h57 => ?_) (fun h57 => ?_)
                  · exact hk44
                  · refine ag_iconst (v := 1) dX12_seals_89 (by decide) ?_
                    refine ag_goto (tgt := 94) dX12_seals_90 (by decide) ?_
                    exact hk6 true
set_option maxRecDepth 100000 in
set_option maxHeartbeats 4000000 in
theorem c_X12_isWithin {l : Launch} {D : va_G} {cy : Nat → ClassId} {bs : Nat} {V : HV} (o0 : Nat) (x1 : Int32) (x2 : Int32) (ho0 : o0 < 1) {z : Bool} (hz : f_X12_isWithin o0 x1 x2 V = some z) : CM l (aG 57 bs) D (tyL cy) (vwM cy bs) yX12_isWithin cX12_isWithin 3 (some .boolean) 1 20 tvZ [.ref (bs + posM 10 o0), .int x1, .int x2] V (z, V) := by
  refine cm_of vwM_D (by decide +kernel) (own := RX12) rfl (Nat.le_of_ble_eq_true rfl) (L := [some (.ref (bs + posM 10 o0)), some (.int x1), some (.int x2)]) rfl hz (fun Γ => ?_)
  unfold f_X12_isWithin
  refine ag_aload_n dX12_isWithin_0 rfl ?_
  refine gM_X12_base ho0 fl_X12_13 dX12_isWithin_1 ?_
  refine ag_iload_n dX12_isWithin_4 rfl ?_
  refine ag_chk (fun h1 => ?_)
  refine aM_25 (by decide) h1 dX12_isWithin_5 ?_
  refine ag_isJp (c_X12_plain (V 2500 0 (x1).toNatClampNeg)  rfl) vwM_D cs_X12_260 rfl rfl (Nat.le_of_ble_eq_true rfl) ⟨by decide, by decide⟩ ⟨Nat.zero_le _, Nat.zero_le _⟩ dX12_isWithin_6 ?_
  refine ag_ltJ (fun v2 => ?_)
  refine ag_aload_n dX12_isWithin_9 rfl ?_
  refine gM_X12_base ho0 fl_X12_13 dX12_isWithin_10 ?_
  refine ag_iload_n dX12_isWithin_13 rfl ?_
  refine ag_chk (fun h3 => ?_)
  refine aM_25 (by decide) h3 dX12_isWithin_14 ?_
  refine ag_isJp (c_X12_plain (V 2500 0 (x2).toNatClampNeg)  rfl) vwM_D cs_X12_260 rfl rfl (Nat.le_of_ble_eq_true rfl) ⟨by decide, by decide⟩ ⟨Nat.zero_le _, Nat.zero_le _⟩ dX12_isWithin_15 ?_
  refine ag_ltJ (fun v4 => ?_)
  refine ag_lcmp dX12_isWithin_18 ?_
  refine ag_if_lt (tgt := 81) dX12_isWithin_19 (by decide) (fun h5 => ?_) (fun h5 => ?_)
  · refine ag_iconst (v := 0) dX12_isWithin_81 (by decide) ?_
    exact ag_zrpp (x := false) dX12_isWithin_82
  · refine ag_aload_n dX12_isWithin_22 rfl ?_
    refine gM_X12_top ho0 fl_X12_16 dX12_isWithin_23 ?_
    refine ag_iload_n dX12_isWithin_26 rfl ?_
    refine ag_chk (fun h6 => ?_)
    refine aM_26 (by decide) h6 dX12_isWithin_27 ?_
    refine ag_isJp (c_X12_plain (V 2600 0 (x1).toNatClampNeg)  rfl) vwM_D cs_X12_260 rfl rfl (Nat.le_of_ble_eq_true rfl) ⟨by decide, by decide⟩ ⟨Nat.zero_le _, Nat.zero_le _⟩ dX12_isWithin_28 ?_
    refine ag_ltJ (fun v7 => ?_)
    refine ag_aload_n dX12_isWithin_31 rfl ?_
    refine gM_X12_top ho0 fl_X12_16 dX12_isWithin_32 ?_
    refine ag_iload_n dX12_isWithin_35 rfl ?_
    refine ag_chk (fun h8 => ?_)
    refine aM_26 (by decide) h8 dX12_isWithin_36 ?_
    refine ag_isJp (c_X12_plain (V 2600 0 (x2).toNatClampNeg)  rfl) vwM_D cs_X12_260 rfl rfl (Nat.le_of_ble_eq_true rfl) ⟨by decide, by decide⟩ ⟨Nat.zero_le _, Nat.zero_le _⟩ dX12_isWithin_37 ?_
    refine ag_ltJ (fun v9 => ?_)
    refine ag_lcmp dX12_isWithin_40 ?_
    refine ag_if_gt (tgt := 81) dX12_isWithin_41 (by decide) (fun h10 => ?_) (fun h10 => ?_)
    · refine ag_iconst (v := 0) dX12_isWithin_81 (by decide) ?_
      exact ag_zrpp (x := false) dX12_isWithin_82
    · refine ag_aload_n dX12_isWithin_44 rfl ?_
      refine gM_X12_perms ho0 fl_X12_19 dX12_isWithin_45 ?_
      refine ag_iload_n dX12_isWithin_48 rfl ?_
      refine ag_chk (fun h11 => ?_)
      refine aM_27 (by decide) h11 dX12_isWithin_49 ?_
      refine ag_aload_n dX12_isWithin_50 rfl ?_
      refine gM_X12_perms ho0 fl_X12_19 dX12_isWithin_51 ?_
      refine ag_iload_n dX12_isWithin_54 rfl ?_
      refine ag_chk (fun h12 => ?_)
      refine aM_27 (by decide) h12 dX12_isWithin_55 ?_
      refine ag_iconst (v := (-1)) dX12_isWithin_56 (by decide) ?_
      refine ag_ixor dX12_isWithin_57 ?_
      refine ag_iand dX12_isWithin_58 ?_
      refine ag_if_ne (tgt := 81) dX12_isWithin_59 (by decide) (fun h13 => ?_) (fun h13 => ?_)
      · refine ag_iconst (v := 0) dX12_isWithin_81 (by decide) ?_
        exact ag_zrpp (x := false) dX12_isWithin_82
      · refine ag_aload_n dX12_isWithin_62 rfl ?_
        refine gM_X12_tag ho0 fl_X12_25 dX12_isWithin_63 ?_
        refine ag_iload_n dX12_isWithin_66 rfl ?_
        refine ag_chk (fun h14 => ?_)
        refine aM_29 (by decide) h14 dX12_isWithin_67 ?_
        refine ag_aload_n dX12_isWithin_68 rfl ?_
        refine gM_X12_tag ho0 fl_X12_25 dX12_isWithin_69 ?_
        refine ag_iload_n dX12_isWithin_72 rfl ?_
        refine ag_chk (fun h15 => ?_)
        refine aM_29 (by decide) h15 dX12_isWithin_73 ?_
        refine ag_icmp_ne (tgt := 81) dX12_isWithin_74 (by decide) (fun h16 => ?_) (fun h16 => ?_)
        · refine ag_iconst (v := 0) dX12_isWithin_81 (by decide) ?_
          exact ag_zrpp (x := false) dX12_isWithin_82
        · refine ag_iconst (v := 1) dX12_isWithin_77 (by decide) ?_
          refine ag_goto (tgt := 82) dX12_isWithin_78 (by decide) ?_
          exact ag_zrpp (x := true) dX12_isWithin_82
set_option maxRecDepth 100000 in
set_option maxHeartbeats 4000000 in
theorem c_X12_isLike {l : Launch} {D : va_G} {cy : Nat → ClassId} {bs : Nat} {V : HV} (o0 : Nat) (x1 : Int32) (x2 : Int32) (ho0 : o0 < 1) {z : Bool} (hz : f_X12_isLike o0 x1 x2 V = some z) : CM l (aG 57 bs) D (tyL cy) (vwM cy bs) yX12_isLike cX12_isLike 3 (some .boolean) 0 0 tvZ [.ref (bs + posM 10 o0), .int x1, .int x2] V (z, V) := by
  refine cm_of vwM_D (by decide +kernel) (own := RX12) rfl (Nat.le_of_ble_eq_true rfl) (L := [some (.ref (bs + posM 10 o0)), some (.int x1), some (.int x2)]) rfl hz (fun Γ => ?_)
  unfold f_X12_isLike
  refine ag_aload_n dX12_isLike_0 rfl ?_
  refine gM_X12_cursor ho0 fl_X12_7 dX12_isLike_1 ?_
  refine ag_iload_n dX12_isLike_4 rfl ?_
  refine ag_chk (fun h1 => ?_)
  refine aM_24 (by decide) h1 dX12_isLike_5 ?_
  refine ag_aload_n dX12_isLike_6 rfl ?_
  refine gM_X12_cursor ho0 fl_X12_7 dX12_isLike_7 ?_
  refine ag_iload_n dX12_isLike_10 rfl ?_
  refine ag_chk (fun h2 => ?_)
  refine aM_24 (by decide) h2 dX12_isLike_11 ?_
  refine ag_icmp_ne (tgt := 94) dX12_isLike_12 (by decide) (fun h3 => ?_) (fun h3 => ?_)
  · refine ag_iconst (v := 0) dX12_isLike_94 (by decide) ?_
    exact ag_zrpp (x := false) dX12_isLike_95
  · refine ag_aload_n dX12_isLike_15 rfl ?_
    refine gM_X12_base ho0 fl_X12_13 dX12_isLike_16 ?_
    refine ag_iload_n dX12_isLike_19 rfl ?_
    refine ag_chk (fun h4 => ?_)
    refine aM_25 (by decide) h4 dX12_isLike_20 ?_
    refine ag_aload_n dX12_isLike_21 rfl ?_
    refine gM_X12_base ho0 fl_X12_13 dX12_isLike_22 ?_
    refine ag_iload_n dX12_isLike_25 rfl ?_
    refine ag_chk (fun h5 => ?_)
    refine aM_25 (by decide) h5 dX12_isLike_26 ?_
    refine ag_icmp_ne (tgt := 94) dX12_isLike_27 (by decide) (fun h6 => ?_) (fun h6 => ?_)
    · refine ag_iconst (v := 0) dX12_isLike_94 (by decide) ?_
      exact ag_zrpp (x := false) dX12_isLike_95
    · refine ag_aload_n dX12_isLike_30 rfl ?_
      refine gM_X12_top ho0 fl_X12_16 dX12_isLike_31 ?_
      refine ag_iload_n dX12_isLike_34 rfl ?_
      refine ag_chk (fun h7 => ?_)
      refine aM_26 (by decide) h7 dX12_isLike_35 ?_
      refine ag_aload_n dX12_isLike_36 rfl ?_
      refine gM_X12_top ho0 fl_X12_16 dX12_isLike_37 ?_
      refine ag_iload_n dX12_isLike_40 rfl ?_
      refine ag_chk (fun h8 => ?_)
      refine aM_26 (by decide) h8 dX12_isLike_41 ?_
      refine ag_icmp_ne (tgt := 94) dX12_isLike_42 (by decide) (fun h9 => ?_) (fun h9 => ?_)
      · refine ag_iconst (v := 0) dX12_isLike_94 (by decide) ?_
        exact ag_zrpp (x := false) dX12_isLike_95
      · refine ag_aload_n dX12_isLike_45 rfl ?_
        refine gM_X12_perms ho0 fl_X12_19 dX12_isLike_46 ?_
        refine ag_iload_n dX12_isLike_49 rfl ?_
        refine ag_chk (fun h10 => ?_)
        refine aM_27 (by decide) h10 dX12_isLike_50 ?_
        refine ag_aload_n dX12_isLike_51 rfl ?_
        refine gM_X12_perms ho0 fl_X12_19 dX12_isLike_52 ?_
        refine ag_iload_n dX12_isLike_55 rfl ?_
        refine ag_chk (fun h11 => ?_)
        refine aM_27 (by decide) h11 dX12_isLike_56 ?_
        refine ag_icmp_ne (tgt := 94) dX12_isLike_57 (by decide) (fun h12 => ?_) (fun h12 => ?_)
        · refine ag_iconst (v := 0) dX12_isLike_94 (by decide) ?_
          exact ag_zrpp (x := false) dX12_isLike_95
        · refine ag_aload_n dX12_isLike_60 rfl ?_
          refine gM_X12_type ho0 fl_X12_22 dX12_isLike_61 ?_
          refine ag_iload_n dX12_isLike_64 rfl ?_
          refine ag_chk (fun h13 => ?_)
          refine aM_28 (by decide) h13 dX12_isLike_65 ?_
          refine ag_aload_n dX12_isLike_66 rfl ?_
          refine gM_X12_type ho0 fl_X12_22 dX12_isLike_67 ?_
          refine ag_iload_n dX12_isLike_70 rfl ?_
          refine ag_chk (fun h14 => ?_)
          refine aM_28 (by decide) h14 dX12_isLike_71 ?_
          refine ag_icmp_ne (tgt := 94) dX12_isLike_72 (by decide) (fun h15 => ?_) (fun h15 => ?_)
          · refine ag_iconst (v := 0) dX12_isLike_94 (by decide) ?_
            exact ag_zrpp (x := false) dX12_isLike_95
          · refine ag_aload_n dX12_isLike_75 rfl ?_
            refine gM_X12_tag ho0 fl_X12_25 dX12_isLike_76 ?_
            refine ag_iload_n dX12_isLike_79 rfl ?_
            refine ag_chk (fun h16 => ?_)
            refine aM_29 (by decide) h16 dX12_isLike_80 ?_
            refine ag_aload_n dX12_isLike_81 rfl ?_
            refine gM_X12_tag ho0 fl_X12_25 dX12_isLike_82 ?_
            refine ag_iload_n dX12_isLike_85 rfl ?_
            refine ag_chk (fun h17 => ?_)
            refine aM_29 (by decide) h17 dX12_isLike_86 ?_
            refine ag_icmp_ne (tgt := 94) dX12_isLike_87 (by decide) (fun h18 => ?_) (fun h18 => ?_)
            · refine ag_iconst (v := 0) dX12_isLike_94 (by decide) ?_
              exact ag_zrpp (x := false) dX12_isLike_95
            · refine ag_iconst (v := 1) dX12_isLike_90 (by decide) ?_
              refine ag_goto (tgt := 95) dX12_isLike_91 (by decide) ?_
              exact ag_zrpp (x := true) dX12_isLike_95
set_option maxRecDepth 100000 in
set_option maxHeartbeats 4000000 in
theorem c_X12_shapes {l : Launch} {D : va_G} {cy : Nat → ClassId} {bs : Nat} {V : HV} (o0 : Nat) (x1 : Int32) (ho0 : o0 < 1) {z : HV} (hz : f_X12_shapes o0 x1 V = some z) : CM l (aG 57 bs) D (tyL cy) (vwM cy bs) yX12_shapes cX12_shapes 6 none 4 93 tvV [.ref (bs + posM 10 o0), .int x1] V ((), z) := by
  refine cm_of vwM_D (by decide +kernel) (own := RX12) rfl (Nat.le_of_ble_eq_true rfl) (L := [some (.ref (bs + posM 10 o0)), some (.int x1), none, none, none, none]) rfl hz (fun Γ => ?_)
  unfold f_X12_shapes
  refine ag_aload_n dX12_shapes_0 rfl ?_
  refine gM_X12_t0 ho0 fl_X12_330 dX12_shapes_1 ?_
  refine ag_aload_n dX12_shapes_4 rfl ?_
  refine ag_ivIp (c_X12_a o0 ho0 rfl) vwM_D (vwM_at (kpM_10 _ ho0)) rfl cs_X12_346 rfl rfl (Nat.le_of_ble_eq_true rfl) ⟨by decide, by decide⟩ ⟨Nat.zero_le _, Nat.zero_le _⟩ dX12_shapes_5 ?_
  refine ag_ltI (fun v1 => ?_)
  refine ag_isIp (c_X12_reg (V 1080 o0 0) v1  rfl) vwM_D cs_X12_307 rfl rfl (Nat.le_of_ble_eq_true rfl) ⟨by decide, by decide⟩ ⟨Nat.zero_le _, Nat.zero_le _⟩ dX12_shapes_8 ?_
  refine ag_ltI (fun v2 => ?_)
  refine ag_istore_n (L' := [some (.ref (bs + posM 10 o0)), some (.int x1), some (.int v2), none, none, none]) dX12_shapes_11 (by decide) rfl ?_
  refine ag_aload_n dX12_shapes_12 rfl ?_
  refine gM_X12_t0 ho0 fl_X12_330 dX12_shapes_13 ?_
  refine ag_aload_n dX12_shapes_16 rfl ?_
  refine ag_ivIp (c_X12_b o0 ho0 rfl) vwM_D (vwM_at (kpM_10 _ ho0)) rfl cs_X12_349 rfl rfl (Nat.le_of_ble_eq_true rfl) ⟨by decide, by decide⟩ ⟨Nat.zero_le _, Nat.zero_le _⟩ dX12_shapes_17 ?_
  refine ag_ltI (fun v3 => ?_)
  refine ag_bipush (v := 15) dX12_shapes_20 (by decide) ?_
  refine ag_iand dX12_shapes_22 ?_
  refine ag_isIp (c_X12_reg (V 1080 o0 0) (v3 &&& 15)  rfl) vwM_D cs_X12_307 rfl rfl (Nat.le_of_ble_eq_true rfl) ⟨by decide, by decide⟩ ⟨Nat.zero_le _, Nat.zero_le _⟩ dX12_shapes_23 ?_
  refine ag_ltI (fun v4 => ?_)
  refine ag_istore_n (L' := [some (.ref (bs + posM 10 o0)), some (.int x1), some (.int v2), some (.int v4), none, none]) dX12_shapes_26 (by decide) rfl ?_
  refine ag_aload_n dX12_shapes_27 rfl ?_
  refine ag_iload_n dX12_shapes_28 rfl ?_
  refine ag_sipush (v := 582) dX12_shapes_29 (by decide) ?_
  refine ag_bnd (fun p5 hp5 => ?_)
  refine ag_ivVe (c_X12_copy o0 v2 582 ho0 hp5) vwM_D (vwM_at (kpM_10 _ ho0)) rfl cs_X12_336 rfl rfl (Nat.le_of_ble_eq_true rfl) ⟨by decide, by decide⟩ ⟨Nat.zero_le _, Nat.zero_le _⟩ dX12_shapes_32 ?_
  refine ag_aload_n dX12_shapes_35 rfl ?_
  refine gM_X12_tag ho0 fl_X12_25 dX12_shapes_36 ?_
  refine ag_iload_n dX12_shapes_39 rfl ?_
  refine ag_chk (fun h6 => ?_)
  refine aM_29 (by decide) h6 dX12_shapes_40 ?_
  refine ag_jn1 (j := 58) (L1 := fun v7 => [some (.ref (bs + posM 10 o0)), some (.int x1), some (.int v2), some (.int v4), none, none]) (st1 := fun v7 => [.int (b2i v7)]) (ws1 := fun v7 => vwM cy bs p5) (fun v7 => ?_) (fun k8 hk9 => ?_)
  · refine ag_istore (L' := [some (.ref (bs + posM 10 o0)), some (.int x1), some (.int v2), some (.int v4), some (.int (b2i v7)), none]) dX12_shapes_58 (by decide) rfl ?_
    refine ag_aload_n dX12_shapes_60 rfl ?_
    refine ag_ivIp (c_X12_f o0 ho0 rfl) vwM_D (vwM_at (kpM_10 _ ho0)) rfl cs_X12_352 rfl rfl (Nat.le_of_ble_eq_true rfl) ⟨by decide, by decide⟩ ⟨Nat.zero_le _, Nat.zero_le _⟩ dX12_shapes_61 ?_
    refine ag_ltI (fun v10 => ?_)
    refine ag_iconst (v := 1) dX12_shapes_64 (by decide) ?_
    refine ag_icmp_ne (tgt := 74) dX12_shapes_65 (by decide) (fun h11 => ?_) (fun h11 => ?_)
    · refine ag_aload_n dX12_shapes_74 rfl ?_
      refine ag_ivIp (c_X12_f o0 ho0 rfl) vwM_D (vwM_at (kpM_10 _ ho0)) rfl cs_X12_352 rfl rfl (Nat.le_of_ble_eq_true rfl) ⟨by decide, by decide⟩ ⟨Nat.zero_le _, Nat.zero_le _⟩ dX12_shapes_75 ?_
      refine ag_ltI (fun v12 => ?_)
      refine ag_iconst (v := 2) dX12_shapes_78 (by decide) ?_
      refine ag_jn1 (j := 343) (L1 := fun V13 => [some (.ref (bs + posM 10 o0)), some (.int x1), some (.int v2), some (.int v4), some (.int (b2i v7)), none]) (st1 := fun V13 => []) (ws1 := fun V13 => vwM cy bs V13) (fun V13 => ?_) (fun k14 hk15 => ?_)
      · refine ag_aload_n dX12_shapes_343 rfl ?_
        refine ag_sipush (v := 582) dX12_shapes_344 (by decide) ?_
        refine ag_aload_n dX12_shapes_347 rfl ?_
        refine ag_ivIp (c_X12_d o0 ho0 rfl) vwM_D (vwM_at (kpM_10 _ ho0)) rfl cs_X12_343 rfl rfl (Nat.le_of_ble_eq_true rfl) ⟨by decide, by decide⟩ ⟨Nat.zero_le _, Nat.zero_le _⟩ dX12_shapes_348 ?_
        refine ag_ltI (fun v16 => ?_)
        refine ag_bnd (fun p17 hp17 => ?_)
        refine ag_ivVe (c_X12_comes o0 582 v16 ho0 hp17) vwM_D (vwM_at (kpM_10 _ ho0)) rfl cs_X12_372 rfl rfl (Nat.le_of_ble_eq_true rfl) ⟨by decide, by decide⟩ ⟨Nat.zero_le _, Nat.zero_le _⟩ dX12_shapes_351 ?_
        exact ag_vrep dX12_shapes_354
      · refine ag_icmp_ne (tgt := 107) dX12_shapes_79 (by decide) (fun h18 => ?_) (fun h18 => ?_)
        · refine ag_aload_n dX12_shapes_107 rfl ?_
          refine ag_ivIp (c_X12_f o0 ho0 rfl) vwM_D (vwM_at (kpM_10 _ ho0)) rfl cs_X12_352 rfl rfl (Nat.le_of_ble_eq_true rfl) ⟨by decide, by decide⟩ ⟨Nat.zero_le _, Nat.zero_le _⟩ dX12_shapes_108 ?_
          refine ag_ltI (fun v19 => ?_)
          refine ag_iconst (v := 3) dX12_shapes_111 (by decide) ?_
          refine ag_icmp_ne (tgt := 135) dX12_shapes_112 (by decide) (fun h20 => ?_) (fun h20 => ?_)
          · refine ag_aload_n dX12_shapes_135 rfl ?_
            refine ag_ivIp (c_X12_g o0 ho0 rfl) vwM_D (vwM_at (kpM_10 _ ho0)) rfl cs_X12_355 rfl rfl (Nat.le_of_ble_eq_true rfl) ⟨by decide, by decide⟩ ⟨Nat.zero_le _, Nat.zero_le _⟩ dX12_shapes_136 ?_
            refine ag_ltI (fun v21 => ?_)
            refine ag_if_ne (tgt := 172) dX12_shapes_139 (by decide) (fun h22 => ?_) (fun h22 => ?_)
            · refine ag_aload_n dX12_shapes_172 rfl ?_
              refine ag_ivIp (c_X12_g o0 ho0 rfl) vwM_D (vwM_at (kpM_10 _ ho0)) rfl cs_X12_355 rfl rfl (Nat.le_of_ble_eq_true rfl) ⟨by decide, by decide⟩ ⟨Nat.zero_le _, Nat.zero_le _⟩ dX12_shapes_173 ?_
              refine ag_ltI (fun v23 => ?_)
              refine ag_iconst (v := 1) dX12_shapes_176 (by decide) ?_
              refine ag_icmp_ne (tgt := 207) dX12_shapes_177 (by decide) (fun h24 => ?_) (fun h24 => ?_)
              · refine ag_aload_n dX12_shapes_207 rfl ?_
                refine ag_ivIp (c_X12_g o0 ho0 rfl) vwM_D (vwM_at (kpM_10 _ ho0)) rfl cs_X12_355 rfl rfl (Nat.le_of_ble_eq_true rfl) ⟨by decide, by decide⟩ ⟨Nat.zero_le _, Nat.zero_le _⟩ dX12_shapes_208 ?_
                refine ag_ltI (fun v25 => ?_)
                refine ag_iconst (v := 2) dX12_shapes_211 (by decide) ?_
                refine ag_icmp_ne (tgt := 234) dX12_shapes_212 (by decide) (fun h26 => ?_) (fun h26 => ?_)
                · refine ag_aload_n dX12_shapes_234 rfl ?_
                  refine ag_ivIp (c_X12_g o0 ho0 rfl) vwM_D (vwM_at (kpM_10 _ ho0)) rfl cs_X12_355 rfl rfl (Nat.le_of_ble_eq_true rfl) ⟨by decide, by decide⟩ ⟨Nat.zero_le _, Nat.zero_le _⟩ dX12_shapes_235 ?_
                  refine ag_ltI (fun v27 => ?_)
                  refine ag_iconst (v := 3) dX12_shapes_238 (by decide) ?_
                  refine ag_icmp_ne (tgt := 280) dX12_shapes_239 (by decide) (fun h28 => ?_) (fun h28 => ?_)
                  · refine ag_aload_n dX12_shapes_280 rfl ?_
                    refine ag_ivIp (c_X12_g o0 ho0 rfl) vwM_D (vwM_at (kpM_10 _ ho0)) rfl cs_X12_355 rfl rfl (Nat.le_of_ble_eq_true rfl) ⟨by decide, by decide⟩ ⟨Nat.zero_le _, Nat.zero_le _⟩ dX12_shapes_281 ?_
                    refine ag_ltI (fun v29 => ?_)
                    refine ag_bipush (v := 6) dX12_shapes_284 (by decide) ?_
                    refine ag_icmp_ge (tgt := 300) dX12_shapes_286 (by decide) (fun h30 => ?_) (fun h30 => ?_)
                    · refine ag_aload_n dX12_shapes_300 rfl ?_
                      refine ag_ivIp (c_X12_g o0 ho0 rfl) vwM_D (vwM_at (kpM_10 _ ho0)) rfl cs_X12_355 rfl rfl (Nat.le_of_ble_eq_true rfl) ⟨by decide, by decide⟩ ⟨Nat.zero_le _, Nat.zero_le _⟩ dX12_shapes_301 ?_
                      refine ag_ltI (fun v31 => ?_)
                      refine ag_bipush (v := 6) dX12_shapes_304 (by decide) ?_
                      refine ag_jn1 (j := 324) (L1 := fun v32 => [some (.ref (bs + posM 10 o0)), some (.int x1), some (.int v2), some (.int v4), some (.int (b2i v7)), none]) (st1 := fun v32 => [.int (b2i v32)]) (ws1 := fun v32 => vwM cy bs p5) (fun v32 => ?_) (fun k33 hk34 => ?_)
                      · refine ag_istore (L' := [some (.ref (bs + posM 10 o0)), some (.int x1), some (.int v2), some (.int v4), some (.int (b2i v7)), some (.int (b2i v32))]) dX12_shapes_324 (by decide) rfl ?_
                        refine ag_aload_n dX12_shapes_326 rfl ?_
                        refine ag_sipush (v := 582) dX12_shapes_327 (by decide) ?_
                        refine ag_iload dX12_shapes_330 rfl ?_
                        refine ag_dv (j := 340) (L1 := fun _ => [some (.ref (bs + posM 10 o0)), some (.int x1), some (.int v2), some (.int v4), some (.int (b2i v7)), some (.int (b2i v32))]) (st1 := fun v35 => [.int (b2i v35), .int 582, .ref (bs + posM 10 o0)]) (ws1 := fun _ => vwM cy bs p5) (fun v35 => ?_) (fun k38 hk36 => ?_)
                        · refine ag_bnd (fun p37 hp37 => ?_)
                          refine ag_ivVe (c_X12_number o0 582 (b2i v35) ho0 hp37) vwM_D (vwM_at (kpM_10 _ ho0)) rfl cs_X12_333 rfl rfl (Nat.le_of_ble_eq_true rfl) ⟨by decide, by decide⟩ ⟨Nat.zero_le _, Nat.zero_le _⟩ dX12_shapes_340 ?_
                          refine ag_drop [5] (L' := [some (.ref (bs + posM 10 o0)), some (.int x1), some (.int v2), some (.int v4), some (.int (b2i v7)), none]) rfl ?_
                          exact hk15 p37
                        · refine ag_bif_eq_v (tgt := 339) dX12_shapes_332 (by decide) (fun h39 => ?_) (fun h39 => ?_)
                          · refine ag_iconst (v := 0) dX12_shapes_339 (by decide) ?_
                            exact hk36 false
                          · refine ag_iconst (v := 1) dX12_shapes_335 (by decide) ?_
                            refine ag_goto (tgt := 340) dX12_shapes_336 (by decide) ?_
                            exact hk36 true
                      · refine ag_icmp_ne (tgt := 318) dX12_shapes_306 (by decide) (fun h40 => ?_) (fun h40 => ?_)
                        · refine ag_aload_n dX12_shapes_318 rfl ?_
                          refine ag_iload_n dX12_shapes_319 rfl ?_
                          refine ag_iload_n dX12_shapes_320 rfl ?_
                          refine ag_bnd (fun p41 hp41 => ?_)
                          refine ag_ivZp (c_X12_isLike o0 v2 v4 ho0 hp41) vwM_D (vwM_at (kpM_10 _ ho0)) rfl cs_X12_437 rfl rfl (Nat.le_of_ble_eq_true rfl) ⟨by decide, by decide⟩ ⟨Nat.zero_le _, Nat.zero_le _⟩ dX12_shapes_321 ?_
                          exact hk34 p41
                        · refine ag_aload_n dX12_shapes_309 rfl ?_
                          refine ag_iload_n dX12_shapes_310 rfl ?_
                          refine ag_iload_n dX12_shapes_311 rfl ?_
                          refine ag_bnd (fun p42 hp42 => ?_)
                          refine ag_ivZp (c_X12_isWithin o0 v4 v2 ho0 hp42) vwM_D (vwM_at (kpM_10 _ ho0)) rfl cs_X12_433 rfl rfl (Nat.le_of_ble_eq_true rfl) ⟨by decide, by decide⟩ ⟨Nat.zero_le _, Nat.zero_le _⟩ dX12_shapes_312 ?_
                          refine ag_goto (tgt := 324) dX12_shapes_315 (by decide) ?_
                          exact hk34 p42
                    · refine ag_aload_n dX12_shapes_289 rfl ?_
                      refine ag_iload_n dX12_shapes_290 rfl ?_
                      refine ag_iload_n dX12_shapes_291 rfl ?_
                      refine ag_iload dX12_shapes_292 rfl ?_
                      refine ag_bnd (fun p43 hp43 => ?_)
                      refine ag_ivVe (c_X12_seals o0 v2 v4 v7 ho0 hp43) vwM_D (vwM_at (kpM_10 _ ho0)) rfl cs_X12_430 rfl rfl (Nat.le_of_ble_eq_true rfl) ⟨by decide, by decide⟩ ⟨Nat.zero_le _, Nat.zero_le _⟩ dX12_shapes_294 ?_
                      refine ag_goto (tgt := 343) dX12_shapes_297 (by decide) ?_
                      exact hk15 p43
                  · refine ag_aload_n dX12_shapes_242 rfl ?_
                    refine gM_X12_perms ho0 fl_X12_19 dX12_shapes_243 ?_
                    refine ag_sipush (v := 582) dX12_shapes_246 (by decide) ?_
                    refine ag_aload_n dX12_shapes_249 rfl ?_
                    refine gM_X12_perms ho0 fl_X12_19 dX12_shapes_250 ?_
                    refine ag_iload_n dX12_shapes_253 rfl ?_
                    refine ag_chk (fun h44 => ?_)
                    refine aM_27 (by decide) h44 dX12_shapes_254 ?_
                    refine ag_aload_n dX12_shapes_255 rfl ?_
                    refine gM_X12_cursor ho0 fl_X12_7 dX12_shapes_256 ?_
                    refine ag_iload_n dX12_shapes_259 rfl ?_
                    refine ag_chk (fun h45 => ?_)
                    refine aM_24 (by decide) h45 dX12_shapes_260 ?_
                    refine ag_iand dX12_shapes_261 ?_
                    refine ag_sipush (v := 255) dX12_shapes_262 (by decide) ?_
                    refine ag_iand dX12_shapes_265 ?_
                    refine ag_chk (fun h46 => ?_)
                    refine sM_27 (by decide) h46 dX12_shapes_266 ?_
                    refine ag_ltV (fun V47 => ?_)
                    refine ag_aload_n dX12_shapes_267 rfl ?_
                    refine gM_X12_tag ho0 fl_X12_25 dX12_shapes_268 ?_
                    refine ag_sipush (v := 582) dX12_shapes_271 (by decide) ?_
                    refine ag_iload dX12_shapes_274 rfl ?_
                    refine ag_chk (fun h48 => ?_)
                    refine sM_29 (x := v7) (by decide) h48 dX12_shapes_276 ?_
                    refine ag_ltV (fun V49 => ?_)
                    refine ag_goto (tgt := 343) dX12_shapes_277 (by decide) ?_
                    exact hk15 V49
                · refine ag_aload_n dX12_shapes_215 rfl ?_
                  refine ag_iload_n dX12_shapes_216 rfl ?_
                  refine ag_aload_n dX12_shapes_217 rfl ?_
                  refine gM_X12_cursor ho0 fl_X12_7 dX12_shapes_218 ?_
                  refine ag_iload_n dX12_shapes_221 rfl ?_
                  refine ag_chk (fun h50 => ?_)
                  refine aM_24 (by decide) h50 dX12_shapes_222 ?_
                  refine ag_isJp (c_X12_plain (p5 2400 0 (v4).toNatClampNeg)  rfl) vwM_D cs_X12_260 rfl rfl (Nat.le_of_ble_eq_true rfl) ⟨by decide, by decide⟩ ⟨Nat.zero_le _, Nat.zero_le _⟩ dX12_shapes_223 ?_
                  refine ag_ltJ (fun v51 => ?_)
                  refine ag_iload dX12_shapes_226 rfl ?_
                  refine ag_bnd (fun p52 hp52 => ?_)
                  refine ag_ivVe (c_X12_bounds o0 v2 v51 v7 ho0 hp52) vwM_D (vwM_at (kpM_10 _ ho0)) rfl cs_X12_426 rfl rfl (Nat.le_of_ble_eq_true rfl) ⟨by decide, by decide⟩ ⟨Nat.zero_le _, Nat.zero_le _⟩ dX12_shapes_228 ?_
                  refine ag_goto (tgt := 343) dX12_shapes_231 (by decide) ?_
                  exact hk15 p52
              · refine ag_aload_n dX12_shapes_180 rfl ?_
                refine gM_X12_cursor ho0 fl_X12_7 dX12_shapes_181 ?_
                refine ag_sipush (v := 582) dX12_shapes_184 (by decide) ?_
                refine ag_aload_n dX12_shapes_187 rfl ?_
                refine gM_X12_cursor ho0 fl_X12_7 dX12_shapes_188 ?_
                refine ag_iload_n dX12_shapes_191 rfl ?_
                refine ag_chk (fun h53 => ?_)
                refine aM_24 (by decide) h53 dX12_shapes_192 ?_
                refine ag_chk (fun h54 => ?_)
                refine sM_24 (by decide) h54 dX12_shapes_193 ?_
                refine ag_ltV (fun V55 => ?_)
                refine ag_aload_n dX12_shapes_194 rfl ?_
                refine gM_X12_tag ho0 fl_X12_25 dX12_shapes_195 ?_
                refine ag_sipush (v := 582) dX12_shapes_198 (by decide) ?_
                refine ag_iload dX12_shapes_201 rfl ?_
                refine ag_chk (fun h56 => ?_)
                refine sM_29 (x := v7) (by decide) h56 dX12_shapes_203 ?_
                refine ag_ltV (fun V57 => ?_)
                refine ag_goto (tgt := 343) dX12_shapes_204 (by decide) ?_
                exact hk15 V57
            · refine ag_aload_n dX12_shapes_142 rfl ?_
              refine gM_X12_cursor ho0 fl_X12_7 dX12_shapes_143 ?_
              refine ag_sipush (v := 582) dX12_shapes_146 (by decide) ?_
              refine ag_dup2 dX12_shapes_149 rfl rfl ?_
              refine ag_chk (fun h58 => ?_)
              refine aM_24 (by decide) h58 dX12_shapes_150 ?_
              refine ag_aload_n dX12_shapes_151 rfl ?_
              refine gM_X12_cursor ho0 fl_X12_7 dX12_shapes_152 ?_
              refine ag_iload_n dX12_shapes_155 rfl ?_
              refine ag_chk (fun h59 => ?_)
              refine aM_24 (by decide) h59 dX12_shapes_156 ?_
              refine ag_iadd dX12_shapes_157 ?_
              refine ag_chk (fun h60 => ?_)
              refine sM_24 (by decide) h60 dX12_shapes_158 ?_
              refine ag_ltV (fun V61 => ?_)
              refine ag_aload_n dX12_shapes_159 rfl ?_
              refine gM_X12_tag ho0 fl_X12_25 dX12_shapes_160 ?_
              refine ag_sipush (v := 582) dX12_shapes_163 (by decide) ?_
              refine ag_iload dX12_shapes_166 rfl ?_
              refine ag_chk (fun h62 => ?_)
              refine sM_29 (x := v7) (by decide) h62 dX12_shapes_168 ?_
              refine ag_ltV (fun V63 => ?_)
              refine ag_goto (tgt := 343) dX12_shapes_169 (by decide) ?_
              exact hk15 V63
          · refine ag_aload_n dX12_shapes_115 rfl ?_
            refine ag_iload_n dX12_shapes_116 rfl ?_
            refine ag_aload_n dX12_shapes_117 rfl ?_
            refine gM_X12_word ho0 fl_X12_328 dX12_shapes_118 ?_
            refine ag_bipush (v := 20) dX12_shapes_121 (by decide) ?_
            refine ag_iushr dX12_shapes_123 ?_
            refine ag_isJp (c_X12_plain ((((p5 1081 o0 0)).toUInt32 >>> (Int32.toUInt32 (20 : Int32) &&& Int32.toUInt32 31)).toInt32)  rfl) vwM_D cs_X12_260 rfl rfl (Nat.le_of_ble_eq_true rfl) ⟨by decide, by decide⟩ ⟨Nat.zero_le _, Nat.zero_le _⟩ dX12_shapes_124 ?_
            refine ag_ltJ (fun v64 => ?_)
            refine ag_iload dX12_shapes_127 rfl ?_
            refine ag_bnd (fun p65 hp65 => ?_)
            refine ag_ivVe (c_X12_bounds o0 v2 v64 v7 ho0 hp65) vwM_D (vwM_at (kpM_10 _ ho0)) rfl cs_X12_426 rfl rfl (Nat.le_of_ble_eq_true rfl) ⟨by decide, by decide⟩ ⟨Nat.zero_le _, Nat.zero_le _⟩ dX12_shapes_129 ?_
            refine ag_goto (tgt := 343) dX12_shapes_132 (by decide) ?_
            exact hk15 p65
        · refine ag_aload_n dX12_shapes_82 rfl ?_
          refine gM_X12_cursor ho0 fl_X12_7 dX12_shapes_83 ?_
          refine ag_sipush (v := 582) dX12_shapes_86 (by decide) ?_
          refine ag_dup2 dX12_shapes_89 rfl rfl ?_
          refine ag_chk (fun h66 => ?_)
          refine aM_24 (by decide) h66 dX12_shapes_90 ?_
          refine ag_iload_n dX12_shapes_91 rfl ?_
          refine ag_iadd dX12_shapes_92 ?_
          refine ag_chk (fun h67 => ?_)
          refine sM_24 (by decide) h67 dX12_shapes_93 ?_
          refine ag_ltV (fun V68 => ?_)
          refine ag_aload_n dX12_shapes_94 rfl ?_
          refine gM_X12_tag ho0 fl_X12_25 dX12_shapes_95 ?_
          refine ag_sipush (v := 582) dX12_shapes_98 (by decide) ?_
          refine ag_iload dX12_shapes_101 rfl ?_
          refine ag_chk (fun h69 => ?_)
          refine sM_29 (x := v7) (by decide) h69 dX12_shapes_103 ?_
          refine ag_ltV (fun V70 => ?_)
          refine ag_goto (tgt := 343) dX12_shapes_104 (by decide) ?_
          exact hk15 V70
    · refine ag_aload_n dX12_shapes_68 rfl ?_
      refine ag_iload_n dX12_shapes_69 rfl ?_
      refine ag_bnd (fun p71 hp71 => ?_)
      refine ag_ivVe (c_X12_asks o0 v2 ho0 hp71) vwM_D (vwM_at (kpM_10 _ ho0)) rfl cs_X12_423 rfl rfl (Nat.le_of_ble_eq_true rfl) ⟨by decide, by decide⟩ ⟨Nat.zero_le _, Nat.zero_le _⟩ dX12_shapes_70 ?_
      exact ag_vrep dX12_shapes_73
  · refine ag_jn0 (j := 57) (L1 := [some (.ref (bs + posM 10 o0)), some (.int x1), some (.int v2), some (.int v4), none, none]) (st1 := []) (ws1 := vwM cy bs p5) (?_) (fun k72 hk73 => ?_)
    · refine ag_iconst (v := 0) dX12_shapes_57 (by decide) ?_
      exact hk9 false
    · refine ag_bif_eq (tgt := 57) dX12_shapes_41 (by decide) (fun h74 => ?_) (fun h74 => ?_)
      · exact hk73
      · refine ag_aload_n dX12_shapes_44 rfl ?_
        refine gM_X12_type ho0 fl_X12_22 dX12_shapes_45 ?_
        refine ag_iload_n dX12_shapes_48 rfl ?_
        refine ag_chk (fun h75 => ?_)
        refine aM_28 (by decide) h75 dX12_shapes_49 ?_
        refine ag_if_ne (tgt := 57) dX12_shapes_50 (by decide) (fun h76 => ?_) (fun h76 => ?_)
        · exact hk73
        · refine ag_iconst (v := 1) dX12_shapes_53 (by decide) ?_
          refine ag_goto (tgt := 58) dX12_shapes_54 (by decide) ?_
          exact hk9 true
set_option maxRecDepth 100000 in
set_option maxHeartbeats 4000000 in
theorem c_X12_isStack {l : Launch} {D : va_G} {cy : Nat → ClassId} {bs : Nat} {V : HV} (o0 : Nat) (ho0 : o0 < 1) {z : Bool} (hz : f_X12_isStack o0 V = some z) : CM l (aG 57 bs) D (tyL cy) (vwM cy bs) yX12_isStack cX12_isStack 2 (some .boolean) 1 21 tvZ [.ref (bs + posM 10 o0)] V (z, V) := by
  refine cm_of vwM_D (by decide +kernel) (own := RX12) rfl (Nat.le_of_ble_eq_true rfl) (L := [some (.ref (bs + posM 10 o0)), none]) rfl hz (fun Γ => ?_)
  unfold f_X12_isStack
  refine ag_aload_n dX12_isStack_0 rfl ?_
  refine gM_X12_t0 ho0 fl_X12_330 dX12_isStack_1 ?_
  refine ag_iconst (v := 2) dX12_isStack_4 (by decide) ?_
  refine ag_isIp (c_X12_reg (V 1080 o0 0) 2  rfl) vwM_D cs_X12_307 rfl rfl (Nat.le_of_ble_eq_true rfl) ⟨by decide, by decide⟩ ⟨Nat.zero_le _, Nat.zero_le _⟩ dX12_isStack_5 ?_
  refine ag_ltI (fun v1 => ?_)
  refine ag_istore_n (L' := [some (.ref (bs + posM 10 o0)), some (.int v1)]) dX12_isStack_8 (by decide) rfl ?_
  refine ag_aload_n dX12_isStack_9 rfl ?_
  refine gM_X12_tag ho0 fl_X12_25 dX12_isStack_10 ?_
  refine ag_iload_n dX12_isStack_13 rfl ?_
  refine ag_chk (fun h2 => ?_)
  refine aM_29 (by decide) h2 dX12_isStack_14 ?_
  refine ag_bif_eq (tgt := 126) dX12_isStack_15 (by decide) (fun h3 => ?_) (fun h3 => ?_)
  · refine ag_iconst (v := 0) dX12_isStack_126 (by decide) ?_
    exact ag_zrpp (x := false) dX12_isStack_127
  · refine ag_aload_n dX12_isStack_18 rfl ?_
    refine gM_X12_type ho0 fl_X12_22 dX12_isStack_19 ?_
    refine ag_iload_n dX12_isStack_22 rfl ?_
    refine ag_chk (fun h4 => ?_)
    refine aM_28 (by decide) h4 dX12_isStack_23 ?_
    refine ag_if_ne (tgt := 126) dX12_isStack_24 (by decide) (fun h5 => ?_) (fun h5 => ?_)
    · refine ag_iconst (v := 0) dX12_isStack_126 (by decide) ?_
      exact ag_zrpp (x := false) dX12_isStack_127
    · refine ag_aload_n dX12_isStack_27 rfl ?_
      refine gM_X12_perms ho0 fl_X12_19 dX12_isStack_28 ?_
      refine ag_iload_n dX12_isStack_31 rfl ?_
      refine ag_chk (fun h6 => ?_)
      refine aM_27 (by decide) h6 dX12_isStack_32 ?_
      refine ag_iconst (v := 2) dX12_isStack_33 (by decide) ?_
      refine ag_iand dX12_isStack_34 ?_
      refine ag_if_eq (tgt := 126) dX12_isStack_35 (by decide) (fun h7 => ?_) (fun h7 => ?_)
      · refine ag_iconst (v := 0) dX12_isStack_126 (by decide) ?_
        exact ag_zrpp (x := false) dX12_isStack_127
      · refine ag_aload_n dX12_isStack_38 rfl ?_
        refine gM_X12_base ho0 fl_X12_13 dX12_isStack_39 ?_
        refine ag_iload_n dX12_isStack_42 rfl ?_
        refine ag_chk (fun h8 => ?_)
        refine aM_25 (by decide) h8 dX12_isStack_43 ?_
        refine ag_aload_n dX12_isStack_44 rfl ?_
        refine gM_X12_stackAt ho0 fl_X12_88 dX12_isStack_45 ?_
        refine ag_aload_n dX12_isStack_48 rfl ?_
        refine gM_X12_t0 ho0 fl_X12_330 dX12_isStack_49 ?_
        refine ag_chk (fun h9 => ?_)
        refine aM_56 (by decide) h9 dX12_isStack_52 ?_
        refine ag_icmp_ne (tgt := 126) dX12_isStack_53 (by decide) (fun h10 => ?_) (fun h10 => ?_)
        · refine ag_iconst (v := 0) dX12_isStack_126 (by decide) ?_
          exact ag_zrpp (x := false) dX12_isStack_127
        · refine ag_aload_n dX12_isStack_56 rfl ?_
          refine gM_X12_top ho0 fl_X12_16 dX12_isStack_57 ?_
          refine ag_iload_n dX12_isStack_60 rfl ?_
          refine ag_chk (fun h11 => ?_)
          refine aM_26 (by decide) h11 dX12_isStack_61 ?_
          refine ag_aload_n dX12_isStack_62 rfl ?_
          refine gM_X12_given ho0 fl_X12_94 dX12_isStack_63 ?_
          refine ag_aload_n dX12_isStack_66 rfl ?_
          refine gM_X12_t0 ho0 fl_X12_330 dX12_isStack_67 ?_
          refine ag_chk (fun h12 => ?_)
          refine aM_58 (by decide) h12 dX12_isStack_70 ?_
          refine ag_icmp_ne (tgt := 126) dX12_isStack_71 (by decide) (fun h13 => ?_) (fun h13 => ?_)
          · refine ag_iconst (v := 0) dX12_isStack_126 (by decide) ?_
            exact ag_zrpp (x := false) dX12_isStack_127
          · refine ag_aload_n dX12_isStack_74 rfl ?_
            refine gM_X12_cursor ho0 fl_X12_7 dX12_isStack_75 ?_
            refine ag_iload_n dX12_isStack_78 rfl ?_
            refine ag_chk (fun h14 => ?_)
            refine aM_24 (by decide) h14 dX12_isStack_79 ?_
            refine ag_aload_n dX12_isStack_80 rfl ?_
            refine gM_X12_stackAt ho0 fl_X12_88 dX12_isStack_81 ?_
            refine ag_aload_n dX12_isStack_84 rfl ?_
            refine gM_X12_t0 ho0 fl_X12_330 dX12_isStack_85 ?_
            refine ag_chk (fun h15 => ?_)
            refine aM_56 (by decide) h15 dX12_isStack_88 ?_
            refine ag_icmp_lt (tgt := 126) dX12_isStack_89 (by decide) (fun h16 => ?_) (fun h16 => ?_)
            · refine ag_iconst (v := 0) dX12_isStack_126 (by decide) ?_
              exact ag_zrpp (x := false) dX12_isStack_127
            · refine ag_aload_n dX12_isStack_92 rfl ?_
              refine gM_X12_cursor ho0 fl_X12_7 dX12_isStack_93 ?_
              refine ag_iload_n dX12_isStack_96 rfl ?_
              refine ag_chk (fun h17 => ?_)
              refine aM_24 (by decide) h17 dX12_isStack_97 ?_
              refine ag_aload_n dX12_isStack_98 rfl ?_
              refine gM_X12_given ho0 fl_X12_94 dX12_isStack_99 ?_
              refine ag_aload_n dX12_isStack_102 rfl ?_
              refine gM_X12_t0 ho0 fl_X12_330 dX12_isStack_103 ?_
              refine ag_chk (fun h18 => ?_)
              refine aM_58 (by decide) h18 dX12_isStack_106 ?_
              refine ag_icmp_gt (tgt := 126) dX12_isStack_107 (by decide) (fun h19 => ?_) (fun h19 => ?_)
              · refine ag_iconst (v := 0) dX12_isStack_126 (by decide) ?_
                exact ag_zrpp (x := false) dX12_isStack_127
              · refine ag_aload_n dX12_isStack_110 rfl ?_
                refine gM_X12_cursor ho0 fl_X12_7 dX12_isStack_111 ?_
                refine ag_iload_n dX12_isStack_114 rfl ?_
                refine ag_chk (fun h20 => ?_)
                refine aM_24 (by decide) h20 dX12_isStack_115 ?_
                refine ag_bipush (v := 16) dX12_isStack_116 (by decide) ?_
                refine ag_irem dX12_isStack_118 (by decide) ?_
                refine ag_if_ne (tgt := 126) dX12_isStack_119 (by decide) (fun h21 => ?_) (fun h21 => ?_)
                · refine ag_iconst (v := 0) dX12_isStack_126 (by decide) ?_
                  exact ag_zrpp (x := false) dX12_isStack_127
                · refine ag_iconst (v := 1) dX12_isStack_122 (by decide) ?_
                  refine ag_goto (tgt := 127) dX12_isStack_123 (by decide) ?_
                  exact ag_zrpp (x := true) dX12_isStack_127
