set_option maxRecDepth 100000 in
set_option maxHeartbeats 4000000 in
theorem c_X12_jumps {l : Launch} {D : va_G} {cy : Nat → ClassId} {bs : Nat} {V : HV} (o0 : Nat) (x1 : Int32) (ho0 : o0 < 1) {z : Int32 × HV} (hz : f_X12_jumps o0 x1 V = some z) : CM l (aG 57 bs) D (tyL cy) (vwM cy bs) yX12_jumps cX12_jumps 4 (some .int) 6 144 tvI [.ref (bs + posM 10 o0), .int x1] V z := by
  refine cm_of vwM_D (by decide +kernel) (own := RX12) rfl (Nat.le_of_ble_eq_true rfl) (L := [some (.ref (bs + posM 10 o0)), some (.int x1), none, none]) rfl hz (fun Γ => ?_)
  unfold f_X12_jumps
  refine ag_aload_n dX12_jumps_0 rfl ?_
  refine gM_X12_t0 ho0 fl_X12_330 dX12_jumps_1 ?_
  refine ag_aload_n dX12_jumps_4 rfl ?_
  refine ag_ivIp (c_X12_a o0 ho0 rfl) vwM_D (vwM_at (kpM_10 _ ho0)) rfl cs_X12_346 rfl rfl (Nat.le_of_ble_eq_true rfl) ⟨by decide, by decide⟩ ⟨Nat.zero_le _, Nat.zero_le _⟩ dX12_jumps_5 ?_
  refine ag_ltI (fun v1 => ?_)
  refine ag_isIp (c_X12_reg (V 1080 o0 0) v1  rfl) vwM_D cs_X12_307 rfl rfl (Nat.le_of_ble_eq_true rfl) ⟨by decide, by decide⟩ ⟨Nat.zero_le _, Nat.zero_le _⟩ dX12_jumps_8 ?_
  refine ag_ltI (fun v2 => ?_)
  refine ag_istore_n (L' := [some (.ref (bs + posM 10 o0)), some (.int x1), some (.int v2), none]) dX12_jumps_11 (by decide) rfl ?_
  refine ag_aload_n dX12_jumps_12 rfl ?_
  refine ag_iload_n dX12_jumps_13 rfl ?_
  refine ag_sipush (v := 583) dX12_jumps_14 (by decide) ?_
  refine ag_bnd (fun p3 hp3 => ?_)
  refine ag_ivVe (c_X12_copy o0 v2 583 ho0 hp3) vwM_D (vwM_at (kpM_10 _ ho0)) rfl cs_X12_336 rfl rfl (Nat.le_of_ble_eq_true rfl) ⟨by decide, by decide⟩ ⟨Nat.zero_le _, Nat.zero_le _⟩ dX12_jumps_17 ?_
  refine ag_aload_n dX12_jumps_20 rfl ?_
  refine gM_X12_type ho0 fl_X12_22 dX12_jumps_21 ?_
  refine ag_iload_n dX12_jumps_24 rfl ?_
  refine ag_chk (fun h4 => ?_)
  refine aM_28 (by decide) h4 dX12_jumps_25 ?_
  refine ag_ltI (fun v5 => ?_)
  refine ag_istore_n (L' := [some (.ref (bs + posM 10 o0)), some (.int x1), some (.int v2), some (.int v5)]) dX12_jumps_26 (by decide) rfl ?_
  refine ag_aload_n dX12_jumps_27 rfl ?_
  refine gM_X12_tag ho0 fl_X12_25 dX12_jumps_28 ?_
  refine ag_iload_n dX12_jumps_31 rfl ?_
  refine ag_chk (fun h6 => ?_)
  refine aM_29 (by decide) h6 dX12_jumps_32 ?_
  refine ag_bif_ne (tgt := 38) dX12_jumps_33 (by decide) (fun h7 => ?_) (fun h7 => ?_)
  · refine ag_iload_n dX12_jumps_38 rfl ?_
    refine ag_jn0 (j := 55) (L1 := [some (.ref (bs + posM 10 o0)), some (.int x1), some (.int v2), some (.int v5)]) (st1 := []) (ws1 := vwM cy bs p3) (?_) (fun k8 hk9 => ?_)
    · refine ag_iload_n dX12_jumps_55 rfl ?_
      refine ag_jn0 (j := 63) (L1 := [some (.ref (bs + posM 10 o0)), some (.int x1), some (.int v2), some (.int v5)]) (st1 := []) (ws1 := vwM cy bs p3) (?_) (fun k10 hk11 => ?_)
      · refine ag_iload_n dX12_jumps_63 rfl ?_
        refine ag_bipush (v := 6) dX12_jumps_64 (by decide) ?_
        refine ag_icmp_le (tgt := 71) dX12_jumps_66 (by decide) (fun h12 => ?_) (fun h12 => ?_)
        · refine ag_aload_n dX12_jumps_71 rfl ?_
          refine ag_bnd (fun p13 hp13 => ?_)
          refine ag_ivVe (c_X12_link o0 ho0 hp13) vwM_D (vwM_at (kpM_10 _ ho0)) rfl cs_X12_376 rfl rfl (Nat.le_of_ble_eq_true rfl) ⟨by decide, by decide⟩ ⟨Nat.zero_le _, Nat.zero_le _⟩ dX12_jumps_72 ?_
          refine ag_iload_n dX12_jumps_75 rfl ?_
          refine ag_iconst (v := 4) dX12_jumps_76 (by decide) ?_
          refine ag_jn0 (j := 98) (L1 := [some (.ref (bs + posM 10 o0)), some (.int x1), some (.int v2), some (.int v5)]) (st1 := []) (ws1 := vwM cy bs p13) (?_) (fun k14 hk15 => ?_)
          · refine ag_aload_n dX12_jumps_98 rfl ?_
            refine ag_sipush (v := 582) dX12_jumps_99 (by decide) ?_
            refine ag_aload_n dX12_jumps_102 rfl ?_
            refine ag_ivIp (c_X12_d o0 ho0 rfl) vwM_D (vwM_at (kpM_10 _ ho0)) rfl cs_X12_343 rfl rfl (Nat.le_of_ble_eq_true rfl) ⟨by decide, by decide⟩ ⟨Nat.zero_le _, Nat.zero_le _⟩ dX12_jumps_103 ?_
            refine ag_ltI (fun v16 => ?_)
            refine ag_bnd (fun p17 hp17 => ?_)
            refine ag_ivVe (c_X12_comes o0 582 v16 ho0 hp17) vwM_D (vwM_at (kpM_10 _ ho0)) rfl cs_X12_372 rfl rfl (Nat.le_of_ble_eq_true rfl) ⟨by decide, by decide⟩ ⟨Nat.zero_le _, Nat.zero_le _⟩ dX12_jumps_106 ?_
            refine ag_iload_n dX12_jumps_109 rfl ?_
            refine ag_iconst (v := 4) dX12_jumps_110 (by decide) ?_
            refine ag_icmp_ge (tgt := 199) dX12_jumps_111 (by decide) (fun h18 => ?_) (fun h18 => ?_)
            · refine ag_iload_n dX12_jumps_199 rfl ?_
              refine ag_iconst (v := 4) dX12_jumps_200 (by decide) ?_
              refine ag_icmp_ne (tgt := 219) dX12_jumps_201 (by decide) (fun h19 => ?_) (fun h19 => ?_)
              · refine ag_iload_n dX12_jumps_219 rfl ?_
                refine ag_iconst (v := 5) dX12_jumps_220 (by decide) ?_
                refine ag_icmp_ne (tgt := 231) dX12_jumps_221 (by decide) (fun h20 => ?_) (fun h20 => ?_)
                · refine ag_aload_n dX12_jumps_231 rfl ?_
                  refine ag_bnd (fun p21 hp21 => ?_)
                  refine ag_ivVe (c_X12_goesOn o0 ho0 hp21) vwM_D (vwM_at (kpM_10 _ ho0)) rfl cs_X12_369 rfl rfl (Nat.le_of_ble_eq_true rfl) ⟨by decide, by decide⟩ ⟨Nat.zero_le _, Nat.zero_le _⟩ dX12_jumps_232 ?_
                  refine ag_aload_n dX12_jumps_235 rfl ?_
                  refine ag_aload_n dX12_jumps_236 rfl ?_
                  refine gM_X12_cursor ho0 fl_X12_7 dX12_jumps_237 ?_
                  refine ag_sipush (v := 583) dX12_jumps_240 (by decide) ?_
                  refine ag_chk (fun h22 => ?_)
                  refine aM_24 (by decide) h22 dX12_jumps_243 ?_
                  refine ag_bnd (fun p23 hp23 => ?_)
                  refine ag_ivVe (c_X12_service o0 (p21 2400 0 ((583 : Int32)).toNatClampNeg) ho0 hp23) vwM_D (vwM_at (kpM_10 _ ho0)) rfl cs_X12_453 rfl rfl (Nat.le_of_ble_eq_true rfl) ⟨by decide, by decide⟩ ⟨Nat.zero_le _, Nat.zero_le _⟩ dX12_jumps_244 ?_
                  refine ag_iconst (v := 0) dX12_jumps_247 (by decide) ?_
                  exact ag_irep dX12_jumps_248
                · refine ag_aload_n dX12_jumps_224 rfl ?_
                  refine ag_bnd (fun p24 hp24 => ?_)
                  refine ag_ivVe (c_X12_returns o0 ho0 hp24) vwM_D (vwM_at (kpM_10 _ ho0)) rfl cs_X12_450 rfl rfl (Nat.le_of_ble_eq_true rfl) ⟨by decide, by decide⟩ ⟨Nat.zero_le _, Nat.zero_le _⟩ dX12_jumps_225 ?_
                  refine ag_goto (tgt := 247) dX12_jumps_228 (by decide) ?_
                  refine ag_iconst (v := 0) dX12_jumps_247 (by decide) ?_
                  exact ag_irep dX12_jumps_248
              · refine ag_aload_n dX12_jumps_204 rfl ?_
                refine ag_aload_n dX12_jumps_205 rfl ?_
                refine gM_X12_cursor ho0 fl_X12_7 dX12_jumps_206 ?_
                refine ag_sipush (v := 583) dX12_jumps_209 (by decide) ?_
                refine ag_chk (fun h25 => ?_)
                refine aM_24 (by decide) h25 dX12_jumps_212 ?_
                refine ag_bnd (fun p26 hp26 => ?_)
                refine ag_ivVe (c_X12_call o0 (p17 2400 0 ((583 : Int32)).toNatClampNeg) ho0 hp26) vwM_D (vwM_at (kpM_10 _ ho0)) rfl cs_X12_447 rfl rfl (Nat.le_of_ble_eq_true rfl) ⟨by decide, by decide⟩ ⟨Nat.zero_le _, Nat.zero_le _⟩ dX12_jumps_213 ?_
                refine ag_goto (tgt := 247) dX12_jumps_216 (by decide) ?_
                refine ag_iconst (v := 0) dX12_jumps_247 (by decide) ?_
                exact ag_irep dX12_jumps_248
            · refine ag_aload_n dX12_jumps_114 rfl ?_
              refine ag_sipush (v := 583) dX12_jumps_115 (by decide) ?_
              refine ag_aload_n dX12_jumps_118 rfl ?_
              refine ag_ivIp (c_X12_pcc o0 ho0 rfl) vwM_D (vwM_at (kpM_10 _ ho0)) rfl cs_X12_339 rfl rfl (Nat.le_of_ble_eq_true rfl) ⟨by decide, by decide⟩ ⟨Nat.zero_le _, Nat.zero_le _⟩ dX12_jumps_119 ?_
              refine ag_ltI (fun v27 => ?_)
              refine ag_bnd (fun p28 hp28 => ?_)
              refine ag_ivVe (c_X12_copy o0 583 v27 ho0 hp28) vwM_D (vwM_at (kpM_10 _ ho0)) rfl cs_X12_336 rfl rfl (Nat.le_of_ble_eq_true rfl) ⟨by decide, by decide⟩ ⟨Nat.zero_le _, Nat.zero_le _⟩ dX12_jumps_122 ?_
              refine ag_aload_n dX12_jumps_125 rfl ?_
              refine gM_X12_cursor ho0 fl_X12_7 dX12_jumps_126 ?_
              refine ag_aload_n dX12_jumps_129 rfl ?_
              refine ag_ivIp (c_X12_pcc o0 ho0 rfl) vwM_D (vwM_at (kpM_10 _ ho0)) rfl cs_X12_339 rfl rfl (Nat.le_of_ble_eq_true rfl) ⟨by decide, by decide⟩ ⟨Nat.zero_le _, Nat.zero_le _⟩ dX12_jumps_130 ?_
              refine ag_ltI (fun v29 => ?_)
              refine ag_dup2 dX12_jumps_133 rfl rfl ?_
              refine ag_chk (fun h30 => ?_)
              refine aM_24 (by decide) h30 dX12_jumps_134 ?_
              refine ag_iload_n dX12_jumps_135 rfl ?_
              refine ag_dv (j := 144) (L1 := fun _ => [some (.ref (bs + posM 10 o0)), some (.int x1), some (.int v2), some (.int v5)]) (st1 := fun v31 => [.int v31, .int (p28 2400 0 (v29).toNatClampNeg), .int v29, .ref (bs + posM 24 0)]) (ws1 := fun _ => vwM cy bs p28) (fun v31 => ?_) (fun k49 hk32 => ?_)
              · refine ag_iadd dX12_jumps_144 ?_
                refine ag_chk (fun h33 => ?_)
                refine sM_24 (by decide) h33 dX12_jumps_145 ?_
                refine ag_ltV (fun V34 => ?_)
                refine ag_aload_n dX12_jumps_146 rfl ?_
                refine gM_X12_type ho0 fl_X12_22 dX12_jumps_147 ?_
                refine ag_aload_n dX12_jumps_150 rfl ?_
                refine ag_ivIp (c_X12_pcc o0 ho0 rfl) vwM_D (vwM_at (kpM_10 _ ho0)) rfl cs_X12_339 rfl rfl (Nat.le_of_ble_eq_true rfl) ⟨by decide, by decide⟩ ⟨Nat.zero_le _, Nat.zero_le _⟩ dX12_jumps_151 ?_
                refine ag_ltI (fun v35 => ?_)
                refine ag_iconst (v := 0) dX12_jumps_154 (by decide) ?_
                refine ag_chk (fun h36 => ?_)
                refine sM_28 (by decide) h36 dX12_jumps_155 ?_
                refine ag_ltV (fun V37 => ?_)
                refine ag_aload_n dX12_jumps_156 rfl ?_
                refine gM_X12_on ho0 fl_X12_76 dX12_jumps_157 ?_
                refine ag_aload_n dX12_jumps_160 rfl ?_
                refine gM_X12_t0 ho0 fl_X12_330 dX12_jumps_161 ?_
                refine ag_iload_n dX12_jumps_164 rfl ?_
                refine ag_iconst (v := 2) dX12_jumps_165 (by decide) ?_
                refine ag_jn1 (j := 195) (L1 := fun v38 => [some (.ref (bs + posM 10 o0)), some (.int x1), some (.int v2), some (.int v5)]) (st1 := fun v38 => [.int (b2i v38), .int (V37 1080 o0 0), .ref (bs + posM 52 0)]) (ws1 := fun v38 => vwM cy bs V37) (fun v38 => ?_) (fun k39 hk40 => ?_)
                · refine ag_chk (fun h41 => ?_)
                  refine sM_52 (x := v38) (by decide) h41 dX12_jumps_195 ?_
                  refine ag_ltV (fun V42 => ?_)
                  refine ag_goto (tgt := 247) dX12_jumps_196 (by decide) ?_
                  refine ag_iconst (v := 0) dX12_jumps_247 (by decide) ?_
                  exact ag_irep dX12_jumps_248
                · refine ag_icmp_ne (tgt := 173) dX12_jumps_166 (by decide) (fun h43 => ?_) (fun h43 => ?_)
                  · refine ag_iload_n dX12_jumps_173 rfl ?_
                    refine ag_iconst (v := 3) dX12_jumps_174 (by decide) ?_
                    refine ag_jn0 (j := 190) (L1 := [some (.ref (bs + posM 10 o0)), some (.int x1), some (.int v2), some (.int v5)]) (st1 := [.int (V37 1080 o0 0), .ref (bs + posM 52 0)]) (ws1 := vwM cy bs V37) (?_) (fun k44 hk45 => ?_)
                    · refine ag_iconst (v := 1) dX12_jumps_190 (by decide) ?_
                      refine ag_goto (tgt := 195) dX12_jumps_191 (by decide) ?_
                      exact hk40 true
                    · refine ag_icmp_eq (tgt := 190) dX12_jumps_175 (by decide) (fun h46 => ?_) (fun h46 => ?_)
                      · exact hk45
                      · refine ag_aload_n dX12_jumps_178 rfl ?_
                        refine gM_X12_on ho0 fl_X12_76 dX12_jumps_179 ?_
                        refine ag_aload_n dX12_jumps_182 rfl ?_
                        refine gM_X12_t0 ho0 fl_X12_330 dX12_jumps_183 ?_
                        refine ag_chk (fun h47 => ?_)
                        refine aM_52 (by decide) h47 dX12_jumps_186 ?_
                        refine ag_bif_eq (tgt := 194) dX12_jumps_187 (by decide) (fun h48 => ?_) (fun h48 => ?_)
                        · refine ag_iconst (v := 0) dX12_jumps_194 (by decide) ?_
                          exact hk40 false
                        · exact hk45
                  · refine ag_iconst (v := 0) dX12_jumps_169 (by decide) ?_
                    refine ag_goto (tgt := 195) dX12_jumps_170 (by decide) ?_
                    exact hk40 false
              · refine ag_if_ne_v (tgt := 143) dX12_jumps_136 (by decide) (fun h50 => ?_) (fun h50 => ?_)
                · refine ag_iconst (v := 0) dX12_jumps_143 (by decide) ?_
                  exact hk32 0
                · refine ag_iload_n dX12_jumps_139 rfl ?_
                  refine ag_goto (tgt := 144) dX12_jumps_140 (by decide) ?_
                  exact hk32 x1
          · refine ag_icmp_ne (tgt := 98) dX12_jumps_77 (by decide) (fun h51 => ?_) (fun h51 => ?_)
            · exact hk15
            · refine ag_aload_n dX12_jumps_80 rfl ?_
              refine ag_ivIp (c_X12_d o0 ho0 rfl) vwM_D (vwM_at (kpM_10 _ ho0)) rfl cs_X12_343 rfl rfl (Nat.le_of_ble_eq_true rfl) ⟨by decide, by decide⟩ ⟨Nat.zero_le _, Nat.zero_le _⟩ dX12_jumps_81 ?_
              refine ag_ltI (fun v52 => ?_)
              refine ag_iconst (v := 2) dX12_jumps_84 (by decide) ?_
              refine ag_icmp_eq (tgt := 95) dX12_jumps_85 (by decide) (fun h53 => ?_) (fun h53 => ?_)
              · refine ag_bipush (v := 7) dX12_jumps_95 (by decide) ?_
                exact ag_irep dX12_jumps_97
              · refine ag_aload_n dX12_jumps_88 rfl ?_
                refine ag_bnd (fun p54 hp54 => ?_)
                refine ag_ivZp (c_X12_isStack o0 ho0 hp54) vwM_D (vwM_at (kpM_10 _ ho0)) rfl cs_X12_444 rfl rfl (Nat.le_of_ble_eq_true rfl) ⟨by decide, by decide⟩ ⟨Nat.zero_le _, Nat.zero_le _⟩ dX12_jumps_89 ?_
                refine ag_bif_ne (tgt := 98) dX12_jumps_92 (by decide) (fun h55 => ?_) (fun h55 => ?_)
                · exact hk15
                · refine ag_bipush (v := 7) dX12_jumps_95 (by decide) ?_
                  exact ag_irep dX12_jumps_97
        · refine ag_iconst (v := 2) dX12_jumps_69 (by decide) ?_
          exact ag_irep dX12_jumps_70
      · refine ag_if_eq (tgt := 63) dX12_jumps_56 (by decide) (fun h56 => ?_) (fun h56 => ?_)
        · exact hk11
        · refine ag_iload_n dX12_jumps_59 rfl ?_
          refine ag_if_ne (tgt := 69) dX12_jumps_60 (by decide) (fun h57 => ?_) (fun h57 => ?_)
          · refine ag_iconst (v := 2) dX12_jumps_69 (by decide) ?_
            exact ag_irep dX12_jumps_70
          · exact hk11
    · refine ag_if_ne (tgt := 55) dX12_jumps_39 (by decide) (fun h58 => ?_) (fun h58 => ?_)
      · exact hk9
      · refine ag_aload_n dX12_jumps_42 rfl ?_
        refine gM_X12_perms ho0 fl_X12_19 dX12_jumps_43 ?_
        refine ag_iload_n dX12_jumps_46 rfl ?_
        refine ag_chk (fun h59 => ?_)
        refine aM_27 (by decide) h59 dX12_jumps_47 ?_
        refine ag_iconst (v := 4) dX12_jumps_48 (by decide) ?_
        refine ag_iand dX12_jumps_49 ?_
        refine ag_if_ne (tgt := 55) dX12_jumps_50 (by decide) (fun h60 => ?_) (fun h60 => ?_)
        · exact hk9
        · refine ag_iconst (v := 3) dX12_jumps_53 (by decide) ?_
          exact ag_irep dX12_jumps_54
  · refine ag_iconst (v := 1) dX12_jumps_36 (by decide) ?_
    exact ag_irep dX12_jumps_37
set_option maxRecDepth 100000 in
set_option maxHeartbeats 4000000 in
theorem c_X12_does {l : Launch} {D : va_G} {cy : Nat → ClassId} {bs : Nat} {V : HV} (o0 : Nat) (ho0 : o0 < 1) {z : Int32 × HV} (hz : f_X12_does o0 V = some z) : CM l (aG 57 bs) D (tyL cy) (vwM cy bs) yX12_does cX12_does 5 (some .int) 7 167 tvI [.ref (bs + posM 10 o0)] V z := by
  refine cm_of vwM_D (by decide +kernel) (own := RX12) rfl (Nat.le_of_ble_eq_true rfl) (L := [some (.ref (bs + posM 10 o0)), none, none, none, none]) rfl hz (fun Γ => ?_)
  unfold f_X12_does
  refine ag_aload_n dX12_does_0 rfl ?_
  refine ag_ivIp (c_X12_pcc o0 ho0 rfl) vwM_D (vwM_at (kpM_10 _ ho0)) rfl cs_X12_339 rfl rfl (Nat.le_of_ble_eq_true rfl) ⟨by decide, by decide⟩ ⟨Nat.zero_le _, Nat.zero_le _⟩ dX12_does_1 ?_
  refine ag_ltI (fun v1 => ?_)
  refine ag_istore_n (L' := [some (.ref (bs + posM 10 o0)), some (.int v1), none, none, none]) dX12_does_4 (by decide) rfl ?_
  refine ag_aload_n dX12_does_5 rfl ?_
  refine ag_iload_n dX12_does_6 rfl ?_
  refine ag_iconst (v := 4) dX12_does_7 (by decide) ?_
  refine ag_aload_n dX12_does_8 rfl ?_
  refine gM_X12_cursor ho0 fl_X12_7 dX12_does_9 ?_
  refine ag_iload_n dX12_does_12 rfl ?_
  refine ag_chk (fun h2 => ?_)
  refine aM_24 (by decide) h2 dX12_does_13 ?_
  refine ag_iconst (v := 4) dX12_does_14 (by decide) ?_
  refine ag_bnd (fun p3 hp3 => ?_)
  refine ag_ivIp (c_X12_refuses o0 v1 4 (V 2400 0 (v1).toNatClampNeg) 4 ho0 hp3) vwM_D (vwM_at (kpM_10 _ ho0)) rfl cs_X12_358 rfl rfl (Nat.le_of_ble_eq_true rfl) ⟨by decide, by decide⟩ ⟨Nat.zero_le _, Nat.zero_le _⟩ dX12_does_15 ?_
  refine ag_istore_n (L' := [some (.ref (bs + posM 10 o0)), some (.int v1), some (.int p3), none, none]) dX12_does_18 (by decide) rfl ?_
  refine ag_iload_n dX12_does_19 rfl ?_
  refine ag_if_eq (tgt := 25) dX12_does_20 (by decide) (fun h4 => ?_) (fun h4 => ?_)
  · refine ag_aload_n dX12_does_25 rfl ?_
    refine ag_aload_n dX12_does_26 rfl ?_
    refine ag_aload_n dX12_does_27 rfl ?_
    refine gM_X12_cursor ho0 fl_X12_7 dX12_does_28 ?_
    refine ag_iload_n dX12_does_31 rfl ?_
    refine ag_chk (fun h5 => ?_)
    refine aM_24 (by decide) h5 dX12_does_32 ?_
    refine ag_iconst (v := 4) dX12_does_33 (by decide) ?_
    refine ag_bnd (fun p6 hp6 => ?_)
    refine ag_ivIp (c_X12_get o0 (V 2400 0 (v1).toNatClampNeg) 4 ho0 hp6) vwM_D (vwM_at (kpM_10 _ ho0)) rfl cs_X12_264 rfl rfl (Nat.le_of_ble_eq_true rfl) ⟨by decide, by decide⟩ ⟨Nat.zero_le _, Nat.zero_le _⟩ dX12_does_34 ?_
    refine pM_X12_word ho0 fl_X12_328 dX12_does_37 ?_
    refine ag_ltV (fun V7 => ?_)
    refine ag_aload_n dX12_does_40 rfl ?_
    refine ag_ivZp (c_X12_isRight o0 ho0 rfl) vwM_D (vwM_at (kpM_10 _ ho0)) rfl cs_X12_362 rfl rfl (Nat.le_of_ble_eq_true rfl) ⟨by decide, by decide⟩ ⟨Nat.zero_le _, Nat.zero_le _⟩ dX12_does_41 ?_
    refine ag_ltZ (fun v8 => ?_)
    refine ag_bif_ne (tgt := 50) dX12_does_44 (by decide) (fun h9 => ?_) (fun h9 => ?_)
    · refine ag_aload_n dX12_does_50 rfl ?_
      refine gM_X12_word ho0 fl_X12_328 dX12_does_51 ?_
      refine ag_bipush (v := 20) dX12_does_54 (by decide) ?_
      refine ag_ishr dX12_does_56 ?_
      refine ag_ltI (fun v10 => ?_)
      refine ag_istore_n (L' := [some (.ref (bs + posM 10 o0)), some (.int v1), some (.int p3), some (.int v10), none]) dX12_does_57 (by decide) rfl ?_
      refine ag_aload_n dX12_does_58 rfl ?_
      refine gM_X12_word ho0 fl_X12_328 dX12_does_59 ?_
      refine ag_bipush (v := 127) dX12_does_62 (by decide) ?_
      refine ag_iand dX12_does_64 ?_
      refine ag_if (fun h11 => ?_) (fun h11 => ?_)
      · refine ag_lk (off := 515) (tgt := 580) dX12_does_65 (by decide) (by rw [h11]; decide) (by decide) ?_
        refine ag_aload_n dX12_does_580 rfl ?_
        refine ag_aload_n dX12_does_581 rfl ?_
        refine ag_aload_n dX12_does_582 rfl ?_
        refine ag_ivIp (c_X12_a o0 ho0 rfl) vwM_D (vwM_at (kpM_10 _ ho0)) rfl cs_X12_346 rfl rfl (Nat.le_of_ble_eq_true rfl) ⟨by decide, by decide⟩ ⟨Nat.zero_le _, Nat.zero_le _⟩ dX12_does_583 ?_
        refine ag_ltI (fun v12 => ?_)
        refine ag_bnd (fun p13 hp13 => ?_)
        refine ag_ivIp (c_X12_value o0 v12 ho0 hp13) vwM_D (vwM_at (kpM_10 _ ho0)) rfl cs_X12_379 rfl rfl (Nat.le_of_ble_eq_true rfl) ⟨by decide, by decide⟩ ⟨Nat.zero_le _, Nat.zero_le _⟩ dX12_does_586 ?_
        refine ag_iload_n dX12_does_589 rfl ?_
        refine ag_iadd dX12_does_590 ?_
        refine ag_bnd (fun p14 hp14 => ?_)
        refine ag_ivIe (c_X12_loads o0 (p13 + v10) ho0 hp14) vwM_D (vwM_at (kpM_10 _ ho0)) rfl cs_X12_394 rfl rfl (Nat.le_of_ble_eq_true rfl) ⟨by decide, by decide⟩ ⟨Nat.zero_le _, Nat.zero_le _⟩ dX12_does_591 ?_
        exact ag_irep dX12_does_594
      · refine ag_if (fun h15 => ?_) (fun h15 => ?_)
        · refine ag_lk (off := 319) (tgt := 384) dX12_does_65 (by decide) (by rw [h15]; decide) (by decide) ?_
          refine ag_aload_n dX12_does_384 rfl ?_
          refine ag_aload_n dX12_does_385 rfl ?_
          refine ag_ivIp (c_X12_d o0 ho0 rfl) vwM_D (vwM_at (kpM_10 _ ho0)) rfl cs_X12_343 rfl rfl (Nat.le_of_ble_eq_true rfl) ⟨by decide, by decide⟩ ⟨Nat.zero_le _, Nat.zero_le _⟩ dX12_does_386 ?_
          refine ag_ltI (fun v16 => ?_)
          refine ag_aload_n dX12_does_389 rfl ?_
          refine ag_ivIp (c_X12_f o0 ho0 rfl) vwM_D (vwM_at (kpM_10 _ ho0)) rfl cs_X12_352 rfl rfl (Nat.le_of_ble_eq_true rfl) ⟨by decide, by decide⟩ ⟨Nat.zero_le _, Nat.zero_le _⟩ dX12_does_390 ?_
          refine ag_ltI (fun v17 => ?_)
          refine ag_aload_n dX12_does_393 rfl ?_
          refine ag_aload_n dX12_does_394 rfl ?_
          refine ag_ivIp (c_X12_a o0 ho0 rfl) vwM_D (vwM_at (kpM_10 _ ho0)) rfl cs_X12_346 rfl rfl (Nat.le_of_ble_eq_true rfl) ⟨by decide, by decide⟩ ⟨Nat.zero_le _, Nat.zero_le _⟩ dX12_does_395 ?_
          refine ag_ltI (fun v18 => ?_)
          refine ag_bnd (fun p19 hp19 => ?_)
          refine ag_ivIp (c_X12_value o0 v18 ho0 hp19) vwM_D (vwM_at (kpM_10 _ ho0)) rfl cs_X12_379 rfl rfl (Nat.le_of_ble_eq_true rfl) ⟨by decide, by decide⟩ ⟨Nat.zero_le _, Nat.zero_le _⟩ dX12_does_398 ?_
          refine ag_aload_n dX12_does_401 rfl ?_
          refine ag_ivIp (c_X12_f o0 ho0 rfl) vwM_D (vwM_at (kpM_10 _ ho0)) rfl cs_X12_352 rfl rfl (Nat.le_of_ble_eq_true rfl) ⟨by decide, by decide⟩ ⟨Nat.zero_le _, Nat.zero_le _⟩ dX12_does_402 ?_
          refine ag_ltI (fun v20 => ?_)
          refine ag_iconst (v := 1) dX12_does_405 (by decide) ?_
          refine ag_dv (j := 425) (L1 := fun _ => [some (.ref (bs + posM 10 o0)), some (.int v1), some (.int p3), some (.int v10), none]) (st1 := fun v21 => [.int v21, .int p19, .int v17, .int v16, .ref (bs + posM 10 o0)]) (ws1 := fun _ => vwM cy bs V7) (fun v21 => ?_) (fun k32 hk22 => ?_)
          · refine ag_aload_n dX12_does_425 rfl ?_
            refine ag_ivIp (c_X12_f o0 ho0 rfl) vwM_D (vwM_at (kpM_10 _ ho0)) rfl cs_X12_352 rfl rfl (Nat.le_of_ble_eq_true rfl) ⟨by decide, by decide⟩ ⟨Nat.zero_le _, Nat.zero_le _⟩ dX12_does_426 ?_
            refine ag_ltI (fun v23 => ?_)
            refine ag_iconst (v := 5) dX12_does_429 (by decide) ?_
            refine ag_dv (j := 447) (L1 := fun _ => [some (.ref (bs + posM 10 o0)), some (.int v1), some (.int p3), some (.int v10), none]) (st1 := fun v24 => [.int (b2i v24), .int v21, .int p19, .int v17, .int v16, .ref (bs + posM 10 o0)]) (ws1 := fun _ => vwM cy bs V7) (fun v24 => ?_) (fun k29 hk25 => ?_)
            · refine ag_isIp (c_X12_sums v17 p19 v21 v24  rfl) vwM_D cs_X12_387 rfl rfl (Nat.le_of_ble_eq_true rfl) ⟨by decide, by decide⟩ ⟨Nat.zero_le _, Nat.zero_le _⟩ dX12_does_447 ?_
              refine ag_ltI (fun v26 => ?_)
              refine ag_bnd (fun p27 hp27 => ?_)
              refine ag_ivVe (c_X12_writes o0 v16 v26 ho0 hp27) vwM_D (vwM_at (kpM_10 _ ho0)) rfl cs_X12_366 rfl rfl (Nat.le_of_ble_eq_true rfl) ⟨by decide, by decide⟩ ⟨Nat.zero_le _, Nat.zero_le _⟩ dX12_does_450 ?_
              refine ag_aload_n dX12_does_453 rfl ?_
              refine ag_bnd (fun p28 hp28 => ?_)
              refine ag_ivVe (c_X12_goesOn o0 ho0 hp28) vwM_D (vwM_at (kpM_10 _ ho0)) rfl cs_X12_369 rfl rfl (Nat.le_of_ble_eq_true rfl) ⟨by decide, by decide⟩ ⟨Nat.zero_le _, Nat.zero_le _⟩ dX12_does_454 ?_
              refine ag_iconst (v := 0) dX12_does_457 (by decide) ?_
              exact ag_irep dX12_does_458
            · refine ag_icmp_ne_v (tgt := 446) dX12_does_430 (by decide) (fun h30 => ?_) (fun h30 => ?_)
              · refine ag_iconst (v := 0) dX12_does_446 (by decide) ?_
                exact hk25 false
              · refine ag_aload_n dX12_does_433 rfl ?_
                refine ag_ivIp (c_X12_g o0 ho0 rfl) vwM_D (vwM_at (kpM_10 _ ho0)) rfl cs_X12_355 rfl rfl (Nat.le_of_ble_eq_true rfl) ⟨by decide, by decide⟩ ⟨Nat.zero_le _, Nat.zero_le _⟩ dX12_does_434 ?_
                refine ag_bipush (v := 32) dX12_does_437 (by decide) ?_
                refine ag_icmp_ne_v (tgt := 446) dX12_does_439 (by decide) (fun h31 => ?_) (fun h31 => ?_)
                · refine ag_iconst (v := 0) dX12_does_446 (by decide) ?_
                  exact hk25 false
                · refine ag_iconst (v := 1) dX12_does_442 (by decide) ?_
                  refine ag_goto (tgt := 447) dX12_does_443 (by decide) ?_
                  exact hk25 true
          · refine ag_icmp_eq_v (tgt := 417) dX12_does_406 (by decide) (fun h33 => ?_) (fun h33 => ?_)
            · refine ag_aload_n dX12_does_417 rfl ?_
              refine ag_ivIp (c_X12_b o0 ho0 rfl) vwM_D (vwM_at (kpM_10 _ ho0)) rfl cs_X12_349 rfl rfl (Nat.le_of_ble_eq_true rfl) ⟨by decide, by decide⟩ ⟨Nat.zero_le _, Nat.zero_le _⟩ dX12_does_418 ?_
              refine ag_goto (tgt := 425) dX12_does_421 (by decide) ?_
              exact hk22 (f_X12_b o0 V7)
            · refine ag_aload_n dX12_does_409 rfl ?_
              refine ag_ivIp (c_X12_f o0 ho0 rfl) vwM_D (vwM_at (kpM_10 _ ho0)) rfl cs_X12_352 rfl rfl (Nat.le_of_ble_eq_true rfl) ⟨by decide, by decide⟩ ⟨Nat.zero_le _, Nat.zero_le _⟩ dX12_does_410 ?_
              refine ag_iconst (v := 5) dX12_does_413 (by decide) ?_
              refine ag_icmp_ne_v (tgt := 424) dX12_does_414 (by decide) (fun h34 => ?_) (fun h34 => ?_)
              · refine ag_iload_n dX12_does_424 rfl ?_
                exact hk22 v10
              · refine ag_aload_n dX12_does_417 rfl ?_
                refine ag_ivIp (c_X12_b o0 ho0 rfl) vwM_D (vwM_at (kpM_10 _ ho0)) rfl cs_X12_349 rfl rfl (Nat.le_of_ble_eq_true rfl) ⟨by decide, by decide⟩ ⟨Nat.zero_le _, Nat.zero_le _⟩ dX12_does_418 ?_
                refine ag_goto (tgt := 425) dX12_does_421 (by decide) ?_
                exact hk22 (f_X12_b o0 V7)
        · refine ag_if (fun h35 => ?_) (fun h35 => ?_)
          · refine ag_lk (off := 105) (tgt := 170) dX12_does_65 (by decide) (by rw [h35]; decide) (by decide) ?_
            refine ag_aload_n dX12_does_170 rfl ?_
            refine ag_iload_n dX12_does_171 rfl ?_
            refine ag_sipush (v := 582) dX12_does_172 (by decide) ?_
            refine ag_bnd (fun p36 hp36 => ?_)
            refine ag_ivVe (c_X12_copy o0 v1 582 ho0 hp36) vwM_D (vwM_at (kpM_10 _ ho0)) rfl cs_X12_336 rfl rfl (Nat.le_of_ble_eq_true rfl) ⟨by decide, by decide⟩ ⟨Nat.zero_le _, Nat.zero_le _⟩ dX12_does_175 ?_
            refine ag_aload_n dX12_does_178 rfl ?_
            refine gM_X12_cursor ho0 fl_X12_7 dX12_does_179 ?_
            refine ag_sipush (v := 582) dX12_does_182 (by decide) ?_
            refine ag_dup2 dX12_does_185 rfl rfl ?_
            refine ag_chk (fun h37 => ?_)
            refine aM_24 (by decide) h37 dX12_does_186 ?_
            refine ag_aload_n dX12_does_187 rfl ?_
            refine gM_X12_word ho0 fl_X12_328 dX12_does_188 ?_
            refine ag_sipush (v := (-4096)) dX12_does_191 (by decide) ?_
            refine ag_iand dX12_does_194 ?_
            refine ag_iadd dX12_does_195 ?_
            refine ag_chk (fun h38 => ?_)
            refine sM_24 (by decide) h38 dX12_does_196 ?_
            refine ag_ltV (fun V39 => ?_)
            refine ag_aload_n dX12_does_197 rfl ?_
            refine ag_bnd (fun p40 hp40 => ?_)
            refine ag_ivVe (c_X12_goesOn o0 ho0 hp40) vwM_D (vwM_at (kpM_10 _ ho0)) rfl cs_X12_369 rfl rfl (Nat.le_of_ble_eq_true rfl) ⟨by decide, by decide⟩ ⟨Nat.zero_le _, Nat.zero_le _⟩ dX12_does_198 ?_
            refine ag_aload_n dX12_does_201 rfl ?_
            refine ag_sipush (v := 582) dX12_does_202 (by decide) ?_
            refine ag_aload_n dX12_does_205 rfl ?_
            refine ag_ivIp (c_X12_d o0 ho0 rfl) vwM_D (vwM_at (kpM_10 _ ho0)) rfl cs_X12_343 rfl rfl (Nat.le_of_ble_eq_true rfl) ⟨by decide, by decide⟩ ⟨Nat.zero_le _, Nat.zero_le _⟩ dX12_does_206 ?_
            refine ag_ltI (fun v41 => ?_)
            refine ag_bnd (fun p42 hp42 => ?_)
            refine ag_ivVe (c_X12_comes o0 582 v41 ho0 hp42) vwM_D (vwM_at (kpM_10 _ ho0)) rfl cs_X12_372 rfl rfl (Nat.le_of_ble_eq_true rfl) ⟨by decide, by decide⟩ ⟨Nat.zero_le _, Nat.zero_le _⟩ dX12_does_209 ?_
            refine ag_iconst (v := 0) dX12_does_212 (by decide) ?_
            exact ag_irep dX12_does_213
          · refine ag_if (fun h43 => ?_) (fun h43 => ?_)
            · refine ag_lk (off := 530) (tgt := 595) dX12_does_65 (by decide) (by rw [h43]; decide) (by decide) ?_
              refine ag_aload_n dX12_does_595 rfl ?_
              refine ag_aload_n dX12_does_596 rfl ?_
              refine ag_aload_n dX12_does_597 rfl ?_
              refine ag_ivIp (c_X12_a o0 ho0 rfl) vwM_D (vwM_at (kpM_10 _ ho0)) rfl cs_X12_346 rfl rfl (Nat.le_of_ble_eq_true rfl) ⟨by decide, by decide⟩ ⟨Nat.zero_le _, Nat.zero_le _⟩ dX12_does_598 ?_
              refine ag_ltI (fun v44 => ?_)
              refine ag_bnd (fun p45 hp45 => ?_)
              refine ag_ivIp (c_X12_value o0 v44 ho0 hp45) vwM_D (vwM_at (kpM_10 _ ho0)) rfl cs_X12_379 rfl rfl (Nat.le_of_ble_eq_true rfl) ⟨by decide, by decide⟩ ⟨Nat.zero_le _, Nat.zero_le _⟩ dX12_does_601 ?_
              refine ag_aload_n dX12_does_604 rfl ?_
              refine gM_X12_word ho0 fl_X12_328 dX12_does_605 ?_
              refine ag_bipush (v := 25) dX12_does_608 (by decide) ?_
              refine ag_ishr dX12_does_610 ?_
              refine ag_iconst (v := 5) dX12_does_611 (by decide) ?_
              refine ag_ishl dX12_does_612 ?_
              refine ag_aload_n dX12_does_613 rfl ?_
              refine ag_ivIp (c_X12_d o0 ho0 rfl) vwM_D (vwM_at (kpM_10 _ ho0)) rfl cs_X12_343 rfl rfl (Nat.le_of_ble_eq_true rfl) ⟨by decide, by decide⟩ ⟨Nat.zero_le _, Nat.zero_le _⟩ dX12_does_614 ?_
              refine ag_ltI (fun v46 => ?_)
              refine ag_ior dX12_does_617 ?_
              refine ag_iadd dX12_does_618 ?_
              refine ag_bnd (fun p47 hp47 => ?_)
              refine ag_ivIe (c_X12_stores o0 (p45 + ((((V7 1081 o0 0) >>> ((25 : Int32) &&& 31)) <<< ((5 : Int32) &&& 31)) ||| v46)) ho0 hp47) vwM_D (vwM_at (kpM_10 _ ho0)) rfl cs_X12_397 rfl rfl (Nat.le_of_ble_eq_true rfl) ⟨by decide, by decide⟩ ⟨Nat.zero_le _, Nat.zero_le _⟩ dX12_does_619 ?_
              exact ag_irep dX12_does_622
            · refine ag_if (fun h48 => ?_) (fun h48 => ?_)
              · refine ag_lk (off := 394) (tgt := 459) dX12_does_65 (by decide) (by rw [h48]; decide) (by decide) ?_
                refine ag_aload_n dX12_does_459 rfl ?_
                refine ag_aload_n dX12_does_460 rfl ?_
                refine ag_ivIp (c_X12_d o0 ho0 rfl) vwM_D (vwM_at (kpM_10 _ ho0)) rfl cs_X12_343 rfl rfl (Nat.le_of_ble_eq_true rfl) ⟨by decide, by decide⟩ ⟨Nat.zero_le _, Nat.zero_le _⟩ dX12_does_461 ?_
                refine ag_ltI (fun v49 => ?_)
                refine ag_aload_n dX12_does_464 rfl ?_
                refine ag_ivIp (c_X12_g o0 ho0 rfl) vwM_D (vwM_at (kpM_10 _ ho0)) rfl cs_X12_355 rfl rfl (Nat.le_of_ble_eq_true rfl) ⟨by decide, by decide⟩ ⟨Nat.zero_le _, Nat.zero_le _⟩ dX12_does_465 ?_
                refine ag_ltI (fun v50 => ?_)
                refine ag_iconst (v := 1) dX12_does_468 (by decide) ?_
                refine ag_jn1 (j := 571) (L1 := fun v51 => [some (.ref (bs + posM 10 o0)), some (.int v1), some (.int p3), some (.int v10), none]) (st1 := fun v51 => [.int v51, .int v49, .ref (bs + posM 10 o0)]) (ws1 := fun v51 => vwM cy bs V7) (fun v51 => ?_) (fun k52 hk53 => ?_)
                · refine ag_bnd (fun p54 hp54 => ?_)
                  refine ag_ivVe (c_X12_writes o0 v49 v51 ho0 hp54) vwM_D (vwM_at (kpM_10 _ ho0)) rfl cs_X12_366 rfl rfl (Nat.le_of_ble_eq_true rfl) ⟨by decide, by decide⟩ ⟨Nat.zero_le _, Nat.zero_le _⟩ dX12_does_571 ?_
                  refine ag_aload_n dX12_does_574 rfl ?_
                  refine ag_bnd (fun p55 hp55 => ?_)
                  refine ag_ivVe (c_X12_goesOn o0 ho0 hp55) vwM_D (vwM_at (kpM_10 _ ho0)) rfl cs_X12_369 rfl rfl (Nat.le_of_ble_eq_true rfl) ⟨by decide, by decide⟩ ⟨Nat.zero_le _, Nat.zero_le _⟩ dX12_does_575 ?_
                  refine ag_iconst (v := 0) dX12_does_578 (by decide) ?_
                  exact ag_irep dX12_does_579
                · refine ag_icmp_ne (tgt := 498) dX12_does_469 (by decide) (fun h56 => ?_) (fun h56 => ?_)
                  · refine ag_aload_n dX12_does_498 rfl ?_
                    refine ag_ivIp (c_X12_f o0 ho0 rfl) vwM_D (vwM_at (kpM_10 _ ho0)) rfl cs_X12_352 rfl rfl (Nat.le_of_ble_eq_true rfl) ⟨by decide, by decide⟩ ⟨Nat.zero_le _, Nat.zero_le _⟩ dX12_does_499 ?_
                    refine ag_ltI (fun v57 => ?_)
                    refine ag_jn0 (j := 534) (L1 := [some (.ref (bs + posM 10 o0)), some (.int v1), some (.int p3), some (.int v10), none]) (st1 := [.int v49, .ref (bs + posM 10 o0)]) (ws1 := vwM cy bs V7) (?_) (fun k58 hk59 => ?_)
                    · refine ag_aload_n dX12_does_534 rfl ?_
                      refine ag_ivIp (c_X12_f o0 ho0 rfl) vwM_D (vwM_at (kpM_10 _ ho0)) rfl cs_X12_352 rfl rfl (Nat.le_of_ble_eq_true rfl) ⟨by decide, by decide⟩ ⟨Nat.zero_le _, Nat.zero_le _⟩ dX12_does_535 ?_
                      refine ag_ltI (fun v60 => ?_)
                      refine ag_aload_n dX12_does_538 rfl ?_
                      refine ag_aload_n dX12_does_539 rfl ?_
                      refine ag_ivIp (c_X12_a o0 ho0 rfl) vwM_D (vwM_at (kpM_10 _ ho0)) rfl cs_X12_346 rfl rfl (Nat.le_of_ble_eq_true rfl) ⟨by decide, by decide⟩ ⟨Nat.zero_le _, Nat.zero_le _⟩ dX12_does_540 ?_
                      refine ag_ltI (fun v61 => ?_)
                      refine ag_bnd (fun p62 hp62 => ?_)
                      refine ag_ivIp (c_X12_value o0 v61 ho0 hp62) vwM_D (vwM_at (kpM_10 _ ho0)) rfl cs_X12_379 rfl rfl (Nat.le_of_ble_eq_true rfl) ⟨by decide, by decide⟩ ⟨Nat.zero_le _, Nat.zero_le _⟩ dX12_does_543 ?_
                      refine ag_aload_n dX12_does_546 rfl ?_
                      refine ag_aload_n dX12_does_547 rfl ?_
                      refine ag_ivIp (c_X12_b o0 ho0 rfl) vwM_D (vwM_at (kpM_10 _ ho0)) rfl cs_X12_349 rfl rfl (Nat.le_of_ble_eq_true rfl) ⟨by decide, by decide⟩ ⟨Nat.zero_le _, Nat.zero_le _⟩ dX12_does_548 ?_
                      refine ag_ltI (fun v63 => ?_)
                      refine ag_bnd (fun p64 hp64 => ?_)
                      refine ag_ivIp (c_X12_value o0 v63 ho0 hp64) vwM_D (vwM_at (kpM_10 _ ho0)) rfl cs_X12_379 rfl rfl (Nat.le_of_ble_eq_true rfl) ⟨by decide, by decide⟩ ⟨Nat.zero_le _, Nat.zero_le _⟩ dX12_does_551 ?_
                      refine ag_aload_n dX12_does_554 rfl ?_
                      refine ag_ivIp (c_X12_g o0 ho0 rfl) vwM_D (vwM_at (kpM_10 _ ho0)) rfl cs_X12_355 rfl rfl (Nat.le_of_ble_eq_true rfl) ⟨by decide, by decide⟩ ⟨Nat.zero_le _, Nat.zero_le _⟩ dX12_does_555 ?_
                      refine ag_ltI (fun v65 => ?_)
                      refine ag_bipush (v := 32) dX12_does_558 (by decide) ?_
                      refine ag_dv (j := 568) (L1 := fun _ => [some (.ref (bs + posM 10 o0)), some (.int v1), some (.int p3), some (.int v10), none]) (st1 := fun v66 => [.int (b2i v66), .int p64, .int p62, .int v60, .int v49, .ref (bs + posM 10 o0)]) (ws1 := fun _ => vwM cy bs V7) (fun v66 => ?_) (fun k69 hk67 => ?_)
                      · refine ag_isIp (c_X12_sums v60 p62 p64 v66  rfl) vwM_D cs_X12_387 rfl rfl (Nat.le_of_ble_eq_true rfl) ⟨by decide, by decide⟩ ⟨Nat.zero_le _, Nat.zero_le _⟩ dX12_does_568 ?_
                        refine ag_ltI (fun v68 => ?_)
                        exact hk53 v68
                      · refine ag_icmp_ne_v (tgt := 567) dX12_does_560 (by decide) (fun h70 => ?_) (fun h70 => ?_)
                        · refine ag_iconst (v := 0) dX12_does_567 (by decide) ?_
                          exact hk67 false
                        · refine ag_iconst (v := 1) dX12_does_563 (by decide) ?_
                          refine ag_goto (tgt := 568) dX12_does_564 (by decide) ?_
                          exact hk67 true
                    · refine ag_if_ne (tgt := 534) dX12_does_502 (by decide) (fun h71 => ?_) (fun h71 => ?_)
                      · exact hk59
                      · refine ag_aload_n dX12_does_505 rfl ?_
                        refine ag_ivIp (c_X12_g o0 ho0 rfl) vwM_D (vwM_at (kpM_10 _ ho0)) rfl cs_X12_355 rfl rfl (Nat.le_of_ble_eq_true rfl) ⟨by decide, by decide⟩ ⟨Nat.zero_le _, Nat.zero_le _⟩ dX12_does_506 ?_
                        refine ag_ltI (fun v72 => ?_)
                        refine ag_bipush (v := 32) dX12_does_509 (by decide) ?_
                        refine ag_icmp_ne (tgt := 534) dX12_does_511 (by decide) (fun h73 => ?_) (fun h73 => ?_)
                        · exact hk59
                        · refine ag_aload_n dX12_does_514 rfl ?_
                          refine ag_aload_n dX12_does_515 rfl ?_
                          refine ag_ivIp (c_X12_a o0 ho0 rfl) vwM_D (vwM_at (kpM_10 _ ho0)) rfl cs_X12_346 rfl rfl (Nat.le_of_ble_eq_true rfl) ⟨by decide, by decide⟩ ⟨Nat.zero_le _, Nat.zero_le _⟩ dX12_does_516 ?_
                          refine ag_ltI (fun v74 => ?_)
                          refine ag_bnd (fun p75 hp75 => ?_)
                          refine ag_ivIp (c_X12_value o0 v74 ho0 hp75) vwM_D (vwM_at (kpM_10 _ ho0)) rfl cs_X12_379 rfl rfl (Nat.le_of_ble_eq_true rfl) ⟨by decide, by decide⟩ ⟨Nat.zero_le _, Nat.zero_le _⟩ dX12_does_519 ?_
                          refine ag_aload_n dX12_does_522 rfl ?_
                          refine ag_aload_n dX12_does_523 rfl ?_
                          refine ag_ivIp (c_X12_b o0 ho0 rfl) vwM_D (vwM_at (kpM_10 _ ho0)) rfl cs_X12_349 rfl rfl (Nat.le_of_ble_eq_true rfl) ⟨by decide, by decide⟩ ⟨Nat.zero_le _, Nat.zero_le _⟩ dX12_does_524 ?_
                          refine ag_ltI (fun v76 => ?_)
                          refine ag_bnd (fun p77 hp77 => ?_)
                          refine ag_ivIp (c_X12_value o0 v76 ho0 hp77) vwM_D (vwM_at (kpM_10 _ ho0)) rfl cs_X12_379 rfl rfl (Nat.le_of_ble_eq_true rfl) ⟨by decide, by decide⟩ ⟨Nat.zero_le _, Nat.zero_le _⟩ dX12_does_527 ?_
                          refine ag_isub dX12_does_530 ?_
                          refine ag_goto (tgt := 571) dX12_does_531 (by decide) ?_
                          exact hk53 (p75 - p77)
                  · refine ag_aload_n dX12_does_472 rfl ?_
                    refine ag_ivIp (c_X12_f o0 ho0 rfl) vwM_D (vwM_at (kpM_10 _ ho0)) rfl cs_X12_352 rfl rfl (Nat.le_of_ble_eq_true rfl) ⟨by decide, by decide⟩ ⟨Nat.zero_le _, Nat.zero_le _⟩ dX12_does_473 ?_
                    refine ag_ltI (fun v78 => ?_)
                    refine ag_aload_n dX12_does_476 rfl ?_
                    refine ag_aload_n dX12_does_477 rfl ?_
                    refine ag_ivIp (c_X12_a o0 ho0 rfl) vwM_D (vwM_at (kpM_10 _ ho0)) rfl cs_X12_346 rfl rfl (Nat.le_of_ble_eq_true rfl) ⟨by decide, by decide⟩ ⟨Nat.zero_le _, Nat.zero_le _⟩ dX12_does_478 ?_
                    refine ag_ltI (fun v79 => ?_)
                    refine ag_bnd (fun p80 hp80 => ?_)
                    refine ag_ivIp (c_X12_value o0 v79 ho0 hp80) vwM_D (vwM_at (kpM_10 _ ho0)) rfl cs_X12_379 rfl rfl (Nat.le_of_ble_eq_true rfl) ⟨by decide, by decide⟩ ⟨Nat.zero_le _, Nat.zero_le _⟩ dX12_does_481 ?_
                    refine ag_aload_n dX12_does_484 rfl ?_
                    refine ag_aload_n dX12_does_485 rfl ?_
                    refine ag_ivIp (c_X12_b o0 ho0 rfl) vwM_D (vwM_at (kpM_10 _ ho0)) rfl cs_X12_349 rfl rfl (Nat.le_of_ble_eq_true rfl) ⟨by decide, by decide⟩ ⟨Nat.zero_le _, Nat.zero_le _⟩ dX12_does_486 ?_
                    refine ag_ltI (fun v81 => ?_)
                    refine ag_bnd (fun p82 hp82 => ?_)
                    refine ag_ivIp (c_X12_value o0 v81 ho0 hp82) vwM_D (vwM_at (kpM_10 _ ho0)) rfl cs_X12_379 rfl rfl (Nat.le_of_ble_eq_true rfl) ⟨by decide, by decide⟩ ⟨Nat.zero_le _, Nat.zero_le _⟩ dX12_does_489 ?_
                    refine ag_bnd (fun p83 hp83 => ?_)
                    refine ag_isIp (c_X12_products v78 p80 p82  hp83) vwM_D cs_X12_391 rfl rfl (Nat.le_of_ble_eq_true rfl) ⟨by decide, by decide⟩ ⟨Nat.zero_le _, Nat.zero_le _⟩ dX12_does_492 ?_
                    refine ag_goto (tgt := 571) dX12_does_495 (by decide) ?_
                    exact hk53 p83
              · refine ag_if (fun h84 => ?_) (fun h84 => ?_)
                · refine ag_lk (off := 83) (tgt := 148) dX12_does_65 (by decide) (by rw [h84]; decide) (by decide) ?_
                  refine ag_aload_n dX12_does_148 rfl ?_
                  refine ag_aload_n dX12_does_149 rfl ?_
                  refine ag_ivIp (c_X12_d o0 ho0 rfl) vwM_D (vwM_at (kpM_10 _ ho0)) rfl cs_X12_343 rfl rfl (Nat.le_of_ble_eq_true rfl) ⟨by decide, by decide⟩ ⟨Nat.zero_le _, Nat.zero_le _⟩ dX12_does_150 ?_
                  refine ag_ltI (fun v85 => ?_)
                  refine ag_aload_n dX12_does_153 rfl ?_
                  refine gM_X12_word ho0 fl_X12_328 dX12_does_154 ?_
                  refine ag_sipush (v := (-4096)) dX12_does_157 (by decide) ?_
                  refine ag_iand dX12_does_160 ?_
                  refine ag_bnd (fun p86 hp86 => ?_)
                  refine ag_ivVe (c_X12_writes o0 v85 ((V7 1081 o0 0) &&& (-4096)) ho0 hp86) vwM_D (vwM_at (kpM_10 _ ho0)) rfl cs_X12_366 rfl rfl (Nat.le_of_ble_eq_true rfl) ⟨by decide, by decide⟩ ⟨Nat.zero_le _, Nat.zero_le _⟩ dX12_does_161 ?_
                  refine ag_aload_n dX12_does_164 rfl ?_
                  refine ag_bnd (fun p87 hp87 => ?_)
                  refine ag_ivVe (c_X12_goesOn o0 ho0 hp87) vwM_D (vwM_at (kpM_10 _ ho0)) rfl cs_X12_369 rfl rfl (Nat.le_of_ble_eq_true rfl) ⟨by decide, by decide⟩ ⟨Nat.zero_le _, Nat.zero_le _⟩ dX12_does_165 ?_
                  refine ag_iconst (v := 0) dX12_does_168 (by decide) ?_
                  exact ag_irep dX12_does_169
                · refine ag_if (fun h88 => ?_) (fun h88 => ?_)
                  · refine ag_lk (off := 558) (tgt := 623) dX12_does_65 (by decide) (by rw [h88]; decide) (by decide) ?_
                    refine ag_aload_n dX12_does_623 rfl ?_
                    refine ag_iload_n dX12_does_624 rfl ?_
                    refine ag_bnd (fun p89 hp89 => ?_)
                    refine ag_ivVe (c_X12_shapes o0 v10 ho0 hp89) vwM_D (vwM_at (kpM_10 _ ho0)) rfl cs_X12_400 rfl rfl (Nat.le_of_ble_eq_true rfl) ⟨by decide, by decide⟩ ⟨Nat.zero_le _, Nat.zero_le _⟩ dX12_does_625 ?_
                    refine ag_aload_n dX12_does_628 rfl ?_
                    refine ag_bnd (fun p90 hp90 => ?_)
                    refine ag_ivVe (c_X12_goesOn o0 ho0 hp90) vwM_D (vwM_at (kpM_10 _ ho0)) rfl cs_X12_369 rfl rfl (Nat.le_of_ble_eq_true rfl) ⟨by decide, by decide⟩ ⟨Nat.zero_le _, Nat.zero_le _⟩ dX12_does_629 ?_
                    refine ag_iconst (v := 0) dX12_does_632 (by decide) ?_
                    exact ag_irep dX12_does_633
                  · refine ag_if (fun h91 => ?_) (fun h91 => ?_)
                    · refine ag_lk (off := 225) (tgt := 290) dX12_does_65 (by decide) (by rw [h91]; decide) (by decide) ?_
                      refine ag_aload_n dX12_does_290 rfl ?_
                      refine gM_X12_word ho0 fl_X12_328 dX12_does_291 ?_
                      refine ag_bipush (v := 31) dX12_does_294 (by decide) ?_
                      refine ag_ishr dX12_does_296 ?_
                      refine ag_bipush (v := 12) dX12_does_297 (by decide) ?_
                      refine ag_ishl dX12_does_299 ?_
                      refine ag_aload_n dX12_does_300 rfl ?_
                      refine gM_X12_word ho0 fl_X12_328 dX12_does_301 ?_
                      refine ag_bipush (v := 7) dX12_does_304 (by decide) ?_
                      refine ag_ishr dX12_does_306 ?_
                      refine ag_iconst (v := 1) dX12_does_307 (by decide) ?_
                      refine ag_iand dX12_does_308 ?_
                      refine ag_bipush (v := 11) dX12_does_309 (by decide) ?_
                      refine ag_ishl dX12_does_311 ?_
                      refine ag_ior dX12_does_312 ?_
                      refine ag_aload_n dX12_does_313 rfl ?_
                      refine gM_X12_word ho0 fl_X12_328 dX12_does_314 ?_
                      refine ag_bipush (v := 25) dX12_does_317 (by decide) ?_
                      refine ag_ishr dX12_does_319 ?_
                      refine ag_bipush (v := 63) dX12_does_320 (by decide) ?_
                      refine ag_iand dX12_does_322 ?_
                      refine ag_iconst (v := 5) dX12_does_323 (by decide) ?_
                      refine ag_ishl dX12_does_324 ?_
                      refine ag_ior dX12_does_325 ?_
                      refine ag_aload_n dX12_does_326 rfl ?_
                      refine gM_X12_word ho0 fl_X12_328 dX12_does_327 ?_
                      refine ag_bipush (v := 8) dX12_does_330 (by decide) ?_
                      refine ag_ishr dX12_does_332 ?_
                      refine ag_bipush (v := 15) dX12_does_333 (by decide) ?_
                      refine ag_iand dX12_does_335 ?_
                      refine ag_iconst (v := 1) dX12_does_336 (by decide) ?_
                      refine ag_ishl dX12_does_337 ?_
                      refine ag_ior dX12_does_338 ?_
                      refine ag_ltI (fun v92 => ?_)
                      refine ag_istore (L' := [some (.ref (bs + posM 10 o0)), some (.int v1), some (.int p3), some (.int v10), some (.int v92)]) dX12_does_339 (by decide) rfl ?_
                      refine ag_aload_n dX12_does_341 rfl ?_
                      refine gM_X12_cursor ho0 fl_X12_7 dX12_does_342 ?_
                      refine ag_iload_n dX12_does_345 rfl ?_
                      refine ag_dup2 dX12_does_346 rfl rfl ?_
                      refine ag_chk (fun h93 => ?_)
                      refine aM_24 (by decide) h93 dX12_does_347 ?_
                      refine ag_aload_n dX12_does_348 rfl ?_
                      refine ag_ivIp (c_X12_f o0 ho0 rfl) vwM_D (vwM_at (kpM_10 _ ho0)) rfl cs_X12_352 rfl rfl (Nat.le_of_ble_eq_true rfl) ⟨by decide, by decide⟩ ⟨Nat.zero_le _, Nat.zero_le _⟩ dX12_does_349 ?_
                      refine ag_ltI (fun v94 => ?_)
                      refine ag_aload_n dX12_does_352 rfl ?_
                      refine ag_aload_n dX12_does_353 rfl ?_
                      refine ag_ivIp (c_X12_a o0 ho0 rfl) vwM_D (vwM_at (kpM_10 _ ho0)) rfl cs_X12_346 rfl rfl (Nat.le_of_ble_eq_true rfl) ⟨by decide, by decide⟩ ⟨Nat.zero_le _, Nat.zero_le _⟩ dX12_does_354 ?_
                      refine ag_ltI (fun v95 => ?_)
                      refine ag_bnd (fun p96 hp96 => ?_)
                      refine ag_ivIp (c_X12_value o0 v95 ho0 hp96) vwM_D (vwM_at (kpM_10 _ ho0)) rfl cs_X12_379 rfl rfl (Nat.le_of_ble_eq_true rfl) ⟨by decide, by decide⟩ ⟨Nat.zero_le _, Nat.zero_le _⟩ dX12_does_357 ?_
                      refine ag_aload_n dX12_does_360 rfl ?_
                      refine ag_aload_n dX12_does_361 rfl ?_
                      refine ag_ivIp (c_X12_b o0 ho0 rfl) vwM_D (vwM_at (kpM_10 _ ho0)) rfl cs_X12_349 rfl rfl (Nat.le_of_ble_eq_true rfl) ⟨by decide, by decide⟩ ⟨Nat.zero_le _, Nat.zero_le _⟩ dX12_does_362 ?_
                      refine ag_ltI (fun v97 => ?_)
                      refine ag_bnd (fun p98 hp98 => ?_)
                      refine ag_ivIp (c_X12_value o0 v97 ho0 hp98) vwM_D (vwM_at (kpM_10 _ ho0)) rfl cs_X12_379 rfl rfl (Nat.le_of_ble_eq_true rfl) ⟨by decide, by decide⟩ ⟨Nat.zero_le _, Nat.zero_le _⟩ dX12_does_365 ?_
                      refine ag_isZp (c_X12_branches v94 p96 p98  rfl) vwM_D cs_X12_383 rfl rfl (Nat.le_of_ble_eq_true rfl) ⟨by decide, by decide⟩ ⟨Nat.zero_le _, Nat.zero_le _⟩ dX12_does_368 ?_
                      refine ag_ltZ (fun v99 => ?_)
                      refine ag_dv (j := 380) (L1 := fun _ => [some (.ref (bs + posM 10 o0)), some (.int v1), some (.int p3), some (.int v10), some (.int v92)]) (st1 := fun v100 => [.int v100, .int (V7 2400 0 (v1).toNatClampNeg), .int v1, .ref (bs + posM 24 0)]) (ws1 := fun _ => vwM cy bs V7) (fun v100 => ?_) (fun k104 hk101 => ?_)
                      · refine ag_iadd dX12_does_380 ?_
                        refine ag_chk (fun h102 => ?_)
                        refine sM_24 (by decide) h102 dX12_does_381 ?_
                        refine ag_ltV (fun V103 => ?_)
                        refine ag_iconst (v := 0) dX12_does_382 (by decide) ?_
                        exact ag_irep dX12_does_383
                      · refine ag_bif_eq_v (tgt := 379) dX12_does_371 (by decide) (fun h105 => ?_) (fun h105 => ?_)
                        · refine ag_iconst (v := 4) dX12_does_379 (by decide) ?_
                          exact hk101 4
                        · refine ag_iload dX12_does_374 rfl ?_
                          refine ag_goto (tgt := 380) dX12_does_376 (by decide) ?_
                          exact hk101 v92
                    · refine ag_if (fun h106 => ?_) (fun h106 => ?_)
                      · refine ag_lk (off := 149) (tgt := 214) dX12_does_65 (by decide) (by rw [h106]; decide) (by decide) ?_
                        refine ag_aload_n dX12_does_214 rfl ?_
                        refine gM_X12_word ho0 fl_X12_328 dX12_does_215 ?_
                        refine ag_bipush (v := 31) dX12_does_218 (by decide) ?_
                        refine ag_ishr dX12_does_220 ?_
                        refine ag_bipush (v := 20) dX12_does_221 (by decide) ?_
                        refine ag_ishl dX12_does_223 ?_
                        refine ag_aload_n dX12_does_224 rfl ?_
                        refine gM_X12_word ho0 fl_X12_328 dX12_does_225 ?_
                        refine ag_ldcw kc_X12_375 dX12_does_228 ?_
                        refine ag_iand dX12_does_231 ?_
                        refine ag_ior dX12_does_232 ?_
                        refine ag_aload_n dX12_does_233 rfl ?_
                        refine gM_X12_word ho0 fl_X12_328 dX12_does_234 ?_
                        refine ag_bipush (v := 20) dX12_does_237 (by decide) ?_
                        refine ag_ishr dX12_does_239 ?_
                        refine ag_iconst (v := 1) dX12_does_240 (by decide) ?_
                        refine ag_iand dX12_does_241 ?_
                        refine ag_bipush (v := 11) dX12_does_242 (by decide) ?_
                        refine ag_ishl dX12_does_244 ?_
                        refine ag_ior dX12_does_245 ?_
                        refine ag_aload_n dX12_does_246 rfl ?_
                        refine gM_X12_word ho0 fl_X12_328 dX12_does_247 ?_
                        refine ag_bipush (v := 21) dX12_does_250 (by decide) ?_
                        refine ag_ishr dX12_does_252 ?_
                        refine ag_sipush (v := 1023) dX12_does_253 (by decide) ?_
                        refine ag_iand dX12_does_256 ?_
                        refine ag_iconst (v := 1) dX12_does_257 (by decide) ?_
                        refine ag_ishl dX12_does_258 ?_
                        refine ag_ior dX12_does_259 ?_
                        refine ag_ltI (fun v107 => ?_)
                        refine ag_istore (L' := [some (.ref (bs + posM 10 o0)), some (.int v1), some (.int p3), some (.int v10), some (.int v107)]) dX12_does_260 (by decide) rfl ?_
                        refine ag_aload_n dX12_does_262 rfl ?_
                        refine ag_bnd (fun p108 hp108 => ?_)
                        refine ag_ivVe (c_X12_link o0 ho0 hp108) vwM_D (vwM_at (kpM_10 _ ho0)) rfl cs_X12_376 rfl rfl (Nat.le_of_ble_eq_true rfl) ⟨by decide, by decide⟩ ⟨Nat.zero_le _, Nat.zero_le _⟩ dX12_does_263 ?_
                        refine ag_aload_n dX12_does_266 rfl ?_
                        refine ag_sipush (v := 582) dX12_does_267 (by decide) ?_
                        refine ag_aload_n dX12_does_270 rfl ?_
                        refine ag_ivIp (c_X12_d o0 ho0 rfl) vwM_D (vwM_at (kpM_10 _ ho0)) rfl cs_X12_343 rfl rfl (Nat.le_of_ble_eq_true rfl) ⟨by decide, by decide⟩ ⟨Nat.zero_le _, Nat.zero_le _⟩ dX12_does_271 ?_
                        refine ag_ltI (fun v109 => ?_)
                        refine ag_bnd (fun p110 hp110 => ?_)
                        refine ag_ivVe (c_X12_comes o0 582 v109 ho0 hp110) vwM_D (vwM_at (kpM_10 _ ho0)) rfl cs_X12_372 rfl rfl (Nat.le_of_ble_eq_true rfl) ⟨by decide, by decide⟩ ⟨Nat.zero_le _, Nat.zero_le _⟩ dX12_does_274 ?_
                        refine ag_aload_n dX12_does_277 rfl ?_
                        refine gM_X12_cursor ho0 fl_X12_7 dX12_does_278 ?_
                        refine ag_iload_n dX12_does_281 rfl ?_
                        refine ag_dup2 dX12_does_282 rfl rfl ?_
                        refine ag_chk (fun h111 => ?_)
                        refine aM_24 (by decide) h111 dX12_does_283 ?_
                        refine ag_iload dX12_does_284 rfl ?_
                        refine ag_iadd dX12_does_286 ?_
                        refine ag_chk (fun h112 => ?_)
                        refine sM_24 (by decide) h112 dX12_does_287 ?_
                        refine ag_ltV (fun V113 => ?_)
                        refine ag_iconst (v := 0) dX12_does_288 (by decide) ?_
                        exact ag_irep dX12_does_289
                      · refine ag_lk (off := 569) (tgt := 634) dX12_does_65 (by decide) (by show Op.lookupswitch.offset [(3, 515), (19, 319), (23, 105), (35, 530), (51, 394), (55, 83), (91, 558), (99, 225), (111, 149)] 569 _ = _; rw [lv_osw h11 (k := 3) (by decide), lv_osw h15 (k := 19) (by decide), lv_osw h35 (k := 23) (by decide), lv_osw h43 (k := 35) (by decide), lv_osw h48 (k := 51) (by decide), lv_osw h84 (k := 55) (by decide), lv_osw h88 (k := 91) (by decide), lv_osw h91 (k := 99) (by decide), lv_osw h106 (k := 111) (by decide)]; rfl) (by decide) ?_
                        refine ag_aload_n dX12_does_634 rfl ?_
                        refine ag_iload_n dX12_does_635 rfl ?_
                        refine ag_bnd (fun p114 hp114 => ?_)
                        refine ag_ivIe (c_X12_jumps o0 v10 ho0 hp114) vwM_D (vwM_at (kpM_10 _ ho0)) rfl cs_X12_403 rfl rfl (Nat.le_of_ble_eq_true rfl) ⟨by decide, by decide⟩ ⟨Nat.zero_le _, Nat.zero_le _⟩ dX12_does_636 ?_
                        exact ag_irep dX12_does_639
    · refine ag_bipush (v := 6) dX12_does_47 (by decide) ?_
      exact ag_irep dX12_does_49
  · refine ag_iload_n dX12_does_23 rfl ?_
    exact ag_irep dX12_does_24
