set_option maxRecDepth 100000 in
set_option maxHeartbeats 4000000 in
theorem c_X12_isStray {l : Launch} {D : va_G} {cy : Nat → ClassId} {bs : Nat} {V : HV} (o0 : Nat) (x1 : Int32) (ho0 : o0 < 1) {z : Bool} (hz : f_X12_isStray o0 x1 V = some z) : CM l (aG 57 bs) D (tyL cy) (vwM cy bs) yX12_isStray cX12_isStray 4 (some .boolean) 1 20 tvZ [.ref (bs + posM 10 o0), .int x1] V (z, V) := by
  refine cm_of vwM_D (by decide +kernel) (own := RX12) rfl (Nat.le_of_ble_eq_true rfl) (L := [some (.ref (bs + posM 10 o0)), some (.int x1), none, none]) rfl hz (fun Γ => ?_)
  unfold f_X12_isStray
  refine ag_aload_n dX12_isStray_0 rfl ?_
  refine gM_X12_tag ho0 fl_X12_25 dX12_isStray_1 ?_
  refine ag_iload_n dX12_isStray_4 rfl ?_
  refine ag_chk (fun h1 => ?_)
  refine aM_29 (by decide) h1 dX12_isStray_5 ?_
  refine ag_bif_eq (tgt := 68) dX12_isStray_6 (by decide) (fun h2 => ?_) (fun h2 => ?_)
  · refine ag_iconst (v := 0) dX12_isStray_68 (by decide) ?_
    exact ag_zrpp (x := false) dX12_isStray_69
  · refine ag_aload_n dX12_isStray_9 rfl ?_
    refine gM_X12_perms ho0 fl_X12_19 dX12_isStray_10 ?_
    refine ag_iload_n dX12_isStray_13 rfl ?_
    refine ag_chk (fun h3 => ?_)
    refine aM_27 (by decide) h3 dX12_isStray_14 ?_
    refine ag_iconst (v := 3) dX12_isStray_15 (by decide) ?_
    refine ag_iand dX12_isStray_16 ?_
    refine ag_if_eq (tgt := 68) dX12_isStray_17 (by decide) (fun h4 => ?_) (fun h4 => ?_)
    · refine ag_iconst (v := 0) dX12_isStray_68 (by decide) ?_
      exact ag_zrpp (x := false) dX12_isStray_69
    · refine ag_aload_n dX12_isStray_20 rfl ?_
      refine gM_X12_base ho0 fl_X12_13 dX12_isStray_21 ?_
      refine ag_iload_n dX12_isStray_24 rfl ?_
      refine ag_chk (fun h5 => ?_)
      refine aM_25 (by decide) h5 dX12_isStray_25 ?_
      refine ag_isJp (c_X12_plain (V 2500 0 (x1).toNatClampNeg)  rfl) vwM_D cs_X12_260 rfl rfl (Nat.le_of_ble_eq_true rfl) ⟨by decide, by decide⟩ ⟨Nat.zero_le _, Nat.zero_le _⟩ dX12_isStray_26 ?_
      refine ag_ltJ (fun v6 => ?_)
      refine ag_aload_n dX12_isStray_29 rfl ?_
      refine gM_X12_top ho0 fl_X12_16 dX12_isStray_30 ?_
      refine ag_iload_n dX12_isStray_33 rfl ?_
      refine ag_chk (fun h7 => ?_)
      refine aM_26 (by decide) h7 dX12_isStray_34 ?_
      refine ag_isJp (c_X12_plain (V 2600 0 (x1).toNatClampNeg)  rfl) vwM_D cs_X12_260 rfl rfl (Nat.le_of_ble_eq_true rfl) ⟨by decide, by decide⟩ ⟨Nat.zero_le _, Nat.zero_le _⟩ dX12_isStray_35 ?_
      refine ag_ltJ (fun v8 => ?_)
      refine ag_lcmp dX12_isStray_38 ?_
      refine ag_if_ge (tgt := 68) dX12_isStray_39 (by decide) (fun h9 => ?_) (fun h9 => ?_)
      · refine ag_iconst (v := 0) dX12_isStray_68 (by decide) ?_
        exact ag_zrpp (x := false) dX12_isStray_69
      · refine ag_aload_n dX12_isStray_42 rfl ?_
        refine gM_X12_base ho0 fl_X12_13 dX12_isStray_43 ?_
        refine ag_iload_n dX12_isStray_46 rfl ?_
        refine ag_chk (fun h10 => ?_)
        refine aM_25 (by decide) h10 dX12_isStray_47 ?_
        refine ag_aload_n dX12_isStray_48 rfl ?_
        refine gM_X12_heapAt ho0 fl_X12_222 dX12_isStray_49 ?_
        refine ag_icmp_lt (tgt := 68) dX12_isStray_52 (by decide) (fun h11 => ?_) (fun h11 => ?_)
        · refine ag_iconst (v := 0) dX12_isStray_68 (by decide) ?_
          exact ag_zrpp (x := false) dX12_isStray_69
        · refine ag_aload_n dX12_isStray_55 rfl ?_
          refine gM_X12_base ho0 fl_X12_13 dX12_isStray_56 ?_
          refine ag_iload_n dX12_isStray_59 rfl ?_
          refine ag_chk (fun h12 => ?_)
          refine aM_25 (by decide) h12 dX12_isStray_60 ?_
          refine ag_aload_n dX12_isStray_61 rfl ?_
          refine gM_X12_size ho0 fl_X12_175 dX12_isStray_62 ?_
          refine ag_icmp_lt (tgt := 70) dX12_isStray_65 (by decide) (fun h13 => ?_) (fun h13 => ?_)
          · refine ag_iconst (v := 0) dX12_isStray_70 (by decide) ?_
            refine ag_istore_n (L' := [some (.ref (bs + posM 10 o0)), some (.int x1), some (.int 0), none]) dX12_isStray_71 (by decide) rfl ?_
            refine ag_iconst (v := 0) dX12_isStray_72 (by decide) ?_
            refine ag_istore_n (L' := [some (.ref (bs + posM 10 o0)), some (.int x1), some (.int 0), some (.int 0)]) dX12_isStray_73 (by decide) rfl ?_
            refine ag_jn1 (j := 135) (L1 := fun v16 => [some (.ref (bs + posM 10 o0)), some (.int x1), some (.int (b2i v16)), none]) (st1 := fun v16 => []) (ws1 := fun v16 => vwM cy bs V) (fun v16 => ?_) (fun k14 hk15 => ?_)
            · refine ag_iload_n dX12_isStray_135 rfl ?_
              refine ag_dv (j := 144) (L1 := fun _ => [some (.ref (bs + posM 10 o0)), some (.int x1), some (.int (b2i v16)), none]) (st1 := fun v17 => [.int (b2i v17)]) (ws1 := fun _ => vwM cy bs V) (fun v17 => ?_) (fun k19 hk18 => ?_)
              · exact ag_zrpp (x := v17) dX12_isStray_144
              · refine ag_bif_ne_v (tgt := 143) dX12_isStray_136 (by decide) (fun h20 => ?_) (fun h20 => ?_)
                · refine ag_iconst (v := 0) dX12_isStray_143 (by decide) ?_
                  exact hk18 false
                · refine ag_iconst (v := 1) dX12_isStray_139 (by decide) ?_
                  refine ag_goto (tgt := 144) dX12_isStray_140 (by decide) ?_
                  exact hk18 true
            · refine ag_loop2 (F := f_X12_isStray_L74 o0 x1 V k14) (L1 := fun v21 v22 => [some (.ref (bs + posM 10 o0)), some (.int x1), some (.int (b2i v21)), some (.int v22)]) (st1 := fun v21 v22 => []) (ws1 := fun v21 v22 => vwM cy bs V) (fun n23 ih24 v21 v22 => ?_) (fun _ _ => rfl) FU false 0
              rw [f_X12_isStray_L74]
              refine ag_iload_n dX12_isStray_74 rfl ?_
              refine ag_aload_n dX12_isStray_75 rfl ?_
              refine gM_X12_objects ho0 fl_X12_225 dX12_isStray_76 ?_
              refine ag_icmp_ge (tgt := 135) dX12_isStray_79 (by decide) (fun h25 => ?_) (fun h25 => ?_)
              · refine ag_drop [3] (L' := [some (.ref (bs + posM 10 o0)), some (.int x1), some (.int (b2i v21)), none]) rfl ?_
                exact hk15 v21
              · refine ag_iload_n dX12_isStray_82 rfl ?_
                refine ag_jn1 (j := 128) (L1 := fun v26 => [some (.ref (bs + posM 10 o0)), some (.int x1), some (.int (b2i v21)), some (.int v22)]) (st1 := fun v26 => [.int (b2i v26)]) (ws1 := fun v26 => vwM cy bs V) (fun v26 => ?_) (fun k27 hk28 => ?_)
                · refine ag_istore_n (L' := [some (.ref (bs + posM 10 o0)), some (.int x1), some (.int (b2i v26)), some (.int v22)]) dX12_isStray_128 (by decide) rfl ?_
                  refine ag_iincL (L' := fun v29 => [some (.ref (bs + posM 10 o0)), some (.int x1), some (.int (b2i v26)), some (.int v29)]) dX12_isStray_129 (by decide) rfl (by decide) (fun _ => rfl) (fun v29 => ?_)
                  refine ag_goto (tgt := 74) dX12_isStray_132 (by decide) ?_
                  exact ih24 v26 v29
                · refine ag_jn0 (j := 123) (L1 := [some (.ref (bs + posM 10 o0)), some (.int x1), some (.int (b2i v21)), some (.int v22)]) (st1 := []) (ws1 := vwM cy bs V) (?_) (fun k30 hk31 => ?_)
                  · refine ag_iconst (v := 1) dX12_isStray_123 (by decide) ?_
                    refine ag_goto (tgt := 128) dX12_isStray_124 (by decide) ?_
                    exact hk28 true
                  · refine ag_bif_ne (tgt := 123) dX12_isStray_83 (by decide) (fun h32 => ?_) (fun h32 => ?_)
                    · exact hk31
                    · refine ag_aload_n dX12_isStray_86 rfl ?_
                      refine gM_X12_base ho0 fl_X12_13 dX12_isStray_87 ?_
                      refine ag_iload_n dX12_isStray_90 rfl ?_
                      refine ag_chk (fun h33 => ?_)
                      refine aM_25 (by decide) h33 dX12_isStray_91 ?_
                      refine ag_aload_n dX12_isStray_92 rfl ?_
                      refine gM_X12_objectAt ho0 fl_X12_121 dX12_isStray_93 ?_
                      refine ag_iload_n dX12_isStray_96 rfl ?_
                      refine ag_chk (fun h34 => ?_)
                      refine aM_76 (by decide) h34 dX12_isStray_97 ?_
                      refine ag_jn0 (j := 127) (L1 := [some (.ref (bs + posM 10 o0)), some (.int x1), some (.int (b2i v21)), some (.int v22)]) (st1 := []) (ws1 := vwM cy bs V) (?_) (fun k35 hk36 => ?_)
                      · refine ag_iconst (v := 0) dX12_isStray_127 (by decide) ?_
                        exact hk28 false
                      · refine ag_icmp_lt (tgt := 127) dX12_isStray_98 (by decide) (fun h37 => ?_) (fun h37 => ?_)
                        · exact hk36
                        · refine ag_aload_n dX12_isStray_101 rfl ?_
                          refine gM_X12_base ho0 fl_X12_13 dX12_isStray_102 ?_
                          refine ag_iload_n dX12_isStray_105 rfl ?_
                          refine ag_chk (fun h38 => ?_)
                          refine aM_25 (by decide) h38 dX12_isStray_106 ?_
                          refine ag_aload_n dX12_isStray_107 rfl ?_
                          refine gM_X12_objectAt ho0 fl_X12_121 dX12_isStray_108 ?_
                          refine ag_iload_n dX12_isStray_111 rfl ?_
                          refine ag_chk (fun h39 => ?_)
                          refine aM_76 (by decide) h39 dX12_isStray_112 ?_
                          refine ag_aload_n dX12_isStray_113 rfl ?_
                          refine gM_X12_objectSize ho0 fl_X12_124 dX12_isStray_114 ?_
                          refine ag_iload_n dX12_isStray_117 rfl ?_
                          refine ag_chk (fun h40 => ?_)
                          refine aM_77 (by decide) h40 dX12_isStray_118 ?_
                          refine ag_iadd dX12_isStray_119 ?_
                          refine ag_icmp_ge (tgt := 127) dX12_isStray_120 (by decide) (fun h41 => ?_) (fun h41 => ?_)
                          · exact hk36
                          · exact hk31
          · refine ag_iconst (v := 0) dX12_isStray_68 (by decide) ?_
            exact ag_zrpp (x := false) dX12_isStray_69
set_option maxRecDepth 100000 in
set_option maxHeartbeats 4000000 in
theorem c_X12_broken {l : Launch} {D : va_G} {cy : Nat → ClassId} {bs : Nat} {V : HV} (o0 : Nat) (x1 : Int32) (ho0 : o0 < 1) {z : Int32 × HV} (hz : f_X12_broken o0 x1 V = some z) : CM l (aG 57 bs) D (tyL cy) (vwM cy bs) yX12_broken cX12_broken 4 (some .int) 2 50 tvI [.ref (bs + posM 10 o0), .int x1] V z := by
  refine cm_of vwM_D (by decide +kernel) (own := RX12) rfl (Nat.le_of_ble_eq_true rfl) (L := [some (.ref (bs + posM 10 o0)), some (.int x1), none, none]) rfl hz (fun Γ => ?_)
  unfold f_X12_broken
  refine ag_aload_n dX12_broken_0 rfl ?_
  refine gM_X12_booted ho0 fl_X12_191 dX12_broken_1 ?_
  refine ag_bif_eq (tgt := 16) dX12_broken_4 (by decide) (fun h1 => ?_) (fun h1 => ?_)
  · refine ag_iconst (v := 0) dX12_broken_16 (by decide) ?_
    exact ag_irep dX12_broken_17
  · refine ag_iload_n dX12_broken_7 rfl ?_
    refine ag_if_lt (tgt := 16) dX12_broken_8 (by decide) (fun h2 => ?_) (fun h2 => ?_)
    · refine ag_iconst (v := 0) dX12_broken_16 (by decide) ?_
      exact ag_irep dX12_broken_17
    · refine ag_iload_n dX12_broken_11 rfl ?_
      refine ag_iconst (v := 2) dX12_broken_12 (by decide) ?_
      refine ag_icmp_le (tgt := 18) dX12_broken_13 (by decide) (fun h3 => ?_) (fun h3 => ?_)
      · refine ag_iconst (v := 0) dX12_broken_18 (by decide) ?_
        refine ag_istore_n (L' := [some (.ref (bs + posM 10 o0)), some (.int x1), some (.int 0), none]) dX12_broken_19 (by decide) rfl ?_
        refine ag_iconst (v := 0) dX12_broken_20 (by decide) ?_
        refine ag_istore_n (L' := [some (.ref (bs + posM 10 o0)), some (.int x1), some (.int 0), some (.int 0)]) dX12_broken_21 (by decide) rfl ?_
        refine ag_jn2 (j := 95) (L1 := fun v6 V7 => [some (.ref (bs + posM 10 o0)), some (.int x1), some (.int v6), none]) (st1 := fun v6 V7 => []) (ws1 := fun v6 V7 => vwM cy bs V7) (fun v6 V7 => ?_) (fun k4 hk5 => ?_)
        · refine ag_iconst (v := 0) dX12_broken_95 (by decide) ?_
          refine ag_istore_n (L' := [some (.ref (bs + posM 10 o0)), some (.int x1), some (.int v6), some (.int 0)]) dX12_broken_96 (by decide) rfl ?_
          refine ag_jn1 (j := 130) (L1 := fun v10 => [some (.ref (bs + posM 10 o0)), some (.int x1), some (.int v10), none]) (st1 := fun v10 => []) (ws1 := fun v10 => vwM cy bs V7) (fun v10 => ?_) (fun k8 hk9 => ?_)
          · refine ag_iconst (v := 0) dX12_broken_130 (by decide) ?_
            refine ag_istore_n (L' := [some (.ref (bs + posM 10 o0)), some (.int x1), some (.int v10), some (.int 0)]) dX12_broken_131 (by decide) rfl ?_
            refine ag_jn1 (j := 250) (L1 := fun v13 => [some (.ref (bs + posM 10 o0)), some (.int x1), some (.int v13), none]) (st1 := fun v13 => []) (ws1 := fun v13 => vwM cy bs V7) (fun v13 => ?_) (fun k11 hk12 => ?_)
            · refine ag_iload_n dX12_broken_250 rfl ?_
              exact ag_irep dX12_broken_251
            · refine ag_loop2 (F := f_X12_broken_L132 o0 x1 V7 k11) (L1 := fun v14 v15 => [some (.ref (bs + posM 10 o0)), some (.int x1), some (.int v14), some (.int v15)]) (st1 := fun v14 v15 => []) (ws1 := fun v14 v15 => vwM cy bs V7) (fun n16 ih17 v14 v15 => ?_) (fun _ _ => rfl) FU v10 0
              rw [f_X12_broken_L132]
              refine ag_iload_n dX12_broken_132 rfl ?_
              refine ag_bipush (v := 16) dX12_broken_133 (by decide) ?_
              refine ag_icmp_gt (tgt := 250) dX12_broken_135 (by decide) (fun h18 => ?_) (fun h18 => ?_)
              · refine ag_drop [3] (L' := [some (.ref (bs + posM 10 o0)), some (.int x1), some (.int v14), none]) rfl ?_
                exact hk12 v14
              · refine ag_iload_n dX12_broken_138 rfl ?_
                refine ag_iconst (v := 1) dX12_broken_139 (by decide) ?_
                refine ag_icmp_ne (tgt := 250) dX12_broken_140 (by decide) (fun h19 => ?_) (fun h19 => ?_)
                · refine ag_drop [3] (L' := [some (.ref (bs + posM 10 o0)), some (.int x1), some (.int v14), none]) rfl ?_
                  exact hk12 v14
                · refine ag_aload_n dX12_broken_143 rfl ?_
                  refine gM_X12_current ho0 fl_X12_204 dX12_broken_144 ?_
                  refine ag_iconst (v := (-1)) dX12_broken_147 (by decide) ?_
                  refine ag_icmp_eq (tgt := 250) dX12_broken_148 (by decide) (fun h20 => ?_) (fun h20 => ?_)
                  · refine ag_drop [3] (L' := [some (.ref (bs + posM 10 o0)), some (.int x1), some (.int v14), none]) rfl ?_
                    exact hk12 v14
                  · refine ag_iload_n dX12_broken_151 rfl ?_
                    refine ag_aload_n dX12_broken_152 rfl ?_
                    refine gM_X12_tag ho0 fl_X12_25 dX12_broken_153 ?_
                    refine ag_aload_n dX12_broken_156 rfl ?_
                    refine gM_X12_current ho0 fl_X12_204 dX12_broken_157 ?_
                    refine ag_iload_n dX12_broken_160 rfl ?_
                    refine ag_isIp (c_X12_reg (V7 1048 o0 0) v15  rfl) vwM_D cs_X12_307 rfl rfl (Nat.le_of_ble_eq_true rfl) ⟨by decide, by decide⟩ ⟨Nat.zero_le _, Nat.zero_le _⟩ dX12_broken_161 ?_
                    refine ag_ltI (fun v21 => ?_)
                    refine ag_chk (fun h22 => ?_)
                    refine aM_29 (by decide) h22 dX12_broken_164 ?_
                    refine ag_jn1 (j := 242) (L1 := fun v23 => [some (.ref (bs + posM 10 o0)), some (.int x1), some (.int v14), some (.int v15)]) (st1 := fun v23 => [.int (b2i v23), .int v14]) (ws1 := fun v23 => vwM cy bs V7) (fun v23 => ?_) (fun k24 hk25 => ?_)
                    · refine ag_iadd dX12_broken_242 ?_
                      refine ag_ltI (fun v26 => ?_)
                      refine ag_istore_n (L' := [some (.ref (bs + posM 10 o0)), some (.int x1), some (.int v26), some (.int v15)]) dX12_broken_243 (by decide) rfl ?_
                      refine ag_iincL (L' := fun v27 => [some (.ref (bs + posM 10 o0)), some (.int x1), some (.int v26), some (.int v27)]) dX12_broken_244 (by decide) rfl (by decide) (fun _ => rfl) (fun v27 => ?_)
                      refine ag_goto (tgt := 132) dX12_broken_247 (by decide) ?_
                      exact ih17 v26 v27
                    · refine ag_jn0 (j := 241) (L1 := [some (.ref (bs + posM 10 o0)), some (.int x1), some (.int v14), some (.int v15)]) (st1 := [.int v14]) (ws1 := vwM cy bs V7) (?_) (fun k28 hk29 => ?_)
                      · refine ag_iconst (v := 0) dX12_broken_241 (by decide) ?_
                        exact hk25 false
                      · refine ag_bif_eq (tgt := 241) dX12_broken_165 (by decide) (fun h30 => ?_) (fun h30 => ?_)
                        · exact hk29
                        · refine ag_aload_n dX12_broken_168 rfl ?_
                          refine gM_X12_base ho0 fl_X12_13 dX12_broken_169 ?_
                          refine ag_aload_n dX12_broken_172 rfl ?_
                          refine gM_X12_current ho0 fl_X12_204 dX12_broken_173 ?_
                          refine ag_iload_n dX12_broken_176 rfl ?_
                          refine ag_isIp (c_X12_reg (V7 1048 o0 0) v15  rfl) vwM_D cs_X12_307 rfl rfl (Nat.le_of_ble_eq_true rfl) ⟨by decide, by decide⟩ ⟨Nat.zero_le _, Nat.zero_le _⟩ dX12_broken_177 ?_
                          refine ag_ltI (fun v31 => ?_)
                          refine ag_chk (fun h32 => ?_)
                          refine aM_25 (by decide) h32 dX12_broken_180 ?_
                          refine ag_isJp (c_X12_plain (V7 2500 0 (v31).toNatClampNeg)  rfl) vwM_D cs_X12_260 rfl rfl (Nat.le_of_ble_eq_true rfl) ⟨by decide, by decide⟩ ⟨Nat.zero_le _, Nat.zero_le _⟩ dX12_broken_181 ?_
                          refine ag_ltJ (fun v33 => ?_)
                          refine ag_aload_n dX12_broken_184 rfl ?_
                          refine gM_X12_top ho0 fl_X12_16 dX12_broken_185 ?_
                          refine ag_aload_n dX12_broken_188 rfl ?_
                          refine gM_X12_current ho0 fl_X12_204 dX12_broken_189 ?_
                          refine ag_iload_n dX12_broken_192 rfl ?_
                          refine ag_isIp (c_X12_reg (V7 1048 o0 0) v15  rfl) vwM_D cs_X12_307 rfl rfl (Nat.le_of_ble_eq_true rfl) ⟨by decide, by decide⟩ ⟨Nat.zero_le _, Nat.zero_le _⟩ dX12_broken_193 ?_
                          refine ag_ltI (fun v34 => ?_)
                          refine ag_chk (fun h35 => ?_)
                          refine aM_26 (by decide) h35 dX12_broken_196 ?_
                          refine ag_isJp (c_X12_plain (V7 2600 0 (v34).toNatClampNeg)  rfl) vwM_D cs_X12_260 rfl rfl (Nat.le_of_ble_eq_true rfl) ⟨by decide, by decide⟩ ⟨Nat.zero_le _, Nat.zero_le _⟩ dX12_broken_197 ?_
                          refine ag_ltJ (fun v36 => ?_)
                          refine ag_lcmp dX12_broken_200 ?_
                          refine ag_if_ge (tgt := 241) dX12_broken_201 (by decide) (fun h37 => ?_) (fun h37 => ?_)
                          · exact hk29
                          · refine ag_aload_n dX12_broken_204 rfl ?_
                            refine gM_X12_perms ho0 fl_X12_19 dX12_broken_205 ?_
                            refine ag_aload_n dX12_broken_208 rfl ?_
                            refine gM_X12_current ho0 fl_X12_204 dX12_broken_209 ?_
                            refine ag_iload_n dX12_broken_212 rfl ?_
                            refine ag_isIp (c_X12_reg (V7 1048 o0 0) v15  rfl) vwM_D cs_X12_307 rfl rfl (Nat.le_of_ble_eq_true rfl) ⟨by decide, by decide⟩ ⟨Nat.zero_le _, Nat.zero_le _⟩ dX12_broken_213 ?_
                            refine ag_ltI (fun v38 => ?_)
                            refine ag_chk (fun h39 => ?_)
                            refine aM_27 (by decide) h39 dX12_broken_216 ?_
                            refine ag_iconst (v := 3) dX12_broken_217 (by decide) ?_
                            refine ag_iand dX12_broken_218 ?_
                            refine ag_if_eq (tgt := 241) dX12_broken_219 (by decide) (fun h40 => ?_) (fun h40 => ?_)
                            · exact hk29
                            · refine ag_aload_n dX12_broken_222 rfl ?_
                              refine ag_aload_n dX12_broken_223 rfl ?_
                              refine gM_X12_current ho0 fl_X12_204 dX12_broken_224 ?_
                              refine ag_iload_n dX12_broken_227 rfl ?_
                              refine ag_isIp (c_X12_reg (V7 1048 o0 0) v15  rfl) vwM_D cs_X12_307 rfl rfl (Nat.le_of_ble_eq_true rfl) ⟨by decide, by decide⟩ ⟨Nat.zero_le _, Nat.zero_le _⟩ dX12_broken_228 ?_
                              refine ag_ltI (fun v41 => ?_)
                              refine ag_bnd (fun p42 hp42 => ?_)
                              refine ag_ivZp (c_X12_isGone o0 v41 ho0 hp42) vwM_D (vwM_at (kpM_10 _ ho0)) rfl cs_X12_256 rfl rfl (Nat.le_of_ble_eq_true rfl) ⟨by decide, by decide⟩ ⟨Nat.zero_le _, Nat.zero_le _⟩ dX12_broken_231 ?_
                              refine ag_bif_eq (tgt := 241) dX12_broken_234 (by decide) (fun h43 => ?_) (fun h43 => ?_)
                              · exact hk29
                              · refine ag_iconst (v := 1) dX12_broken_237 (by decide) ?_
                                refine ag_goto (tgt := 242) dX12_broken_238 (by decide) ?_
                                exact hk25 true
          · refine ag_loop2 (F := f_X12_broken_L97 o0 x1 V7 k8) (L1 := fun v44 v45 => [some (.ref (bs + posM 10 o0)), some (.int x1), some (.int v44), some (.int v45)]) (st1 := fun v44 v45 => []) (ws1 := fun v44 v45 => vwM cy bs V7) (fun n46 ih47 v44 v45 => ?_) (fun _ _ => rfl) FU v6 0
            rw [f_X12_broken_L97]
            refine ag_iload_n dX12_broken_97 rfl ?_
            refine ag_sipush (v := 582) dX12_broken_98 (by decide) ?_
            refine ag_icmp_ge (tgt := 130) dX12_broken_101 (by decide) (fun h48 => ?_) (fun h48 => ?_)
            · refine ag_drop [3] (L' := [some (.ref (bs + posM 10 o0)), some (.int x1), some (.int v44), none]) rfl ?_
              exact hk9 v44
            · refine ag_iload_n dX12_broken_104 rfl ?_
              refine ag_if_ne (tgt := 130) dX12_broken_105 (by decide) (fun h49 => ?_) (fun h49 => ?_)
              · refine ag_drop [3] (L' := [some (.ref (bs + posM 10 o0)), some (.int x1), some (.int v44), none]) rfl ?_
                exact hk9 v44
              · refine ag_iload_n dX12_broken_108 rfl ?_
                refine ag_aload_n dX12_broken_109 rfl ?_
                refine ag_iload_n dX12_broken_110 rfl ?_
                refine ag_bnd (fun p50 hp50 => ?_)
                refine ag_ivZp (c_X12_isMore o0 v45 ho0 hp50) vwM_D (vwM_at (kpM_10 _ ho0)) rfl cs_X12_525 rfl rfl (Nat.le_of_ble_eq_true rfl) ⟨by decide, by decide⟩ ⟨Nat.zero_le _, Nat.zero_le _⟩ dX12_broken_111 ?_
                refine ag_dv (j := 122) (L1 := fun _ => [some (.ref (bs + posM 10 o0)), some (.int x1), some (.int v44), some (.int v45)]) (st1 := fun v51 => [.int (b2i v51), .int v44]) (ws1 := fun _ => vwM cy bs V7) (fun v51 => ?_) (fun k55 hk52 => ?_)
                · refine ag_iadd dX12_broken_122 ?_
                  refine ag_ltI (fun v53 => ?_)
                  refine ag_istore_n (L' := [some (.ref (bs + posM 10 o0)), some (.int x1), some (.int v53), some (.int v45)]) dX12_broken_123 (by decide) rfl ?_
                  refine ag_iincL (L' := fun v54 => [some (.ref (bs + posM 10 o0)), some (.int x1), some (.int v53), some (.int v54)]) dX12_broken_124 (by decide) rfl (by decide) (fun _ => rfl) (fun v54 => ?_)
                  refine ag_goto (tgt := 97) dX12_broken_127 (by decide) ?_
                  exact ih47 v53 v54
                · refine ag_bif_eq_v (tgt := 121) dX12_broken_114 (by decide) (fun h56 => ?_) (fun h56 => ?_)
                  · refine ag_iconst (v := 0) dX12_broken_121 (by decide) ?_
                    exact hk52 false
                  · refine ag_iconst (v := 1) dX12_broken_117 (by decide) ?_
                    refine ag_goto (tgt := 122) dX12_broken_118 (by decide) ?_
                    exact hk52 true
        · refine ag_loop3 (F := f_X12_broken_L22 o0 x1 k4) (L1 := fun v57 v58 V59 => [some (.ref (bs + posM 10 o0)), some (.int x1), some (.int v57), some (.int v58)]) (st1 := fun v57 v58 V59 => []) (ws1 := fun v57 v58 V59 => vwM cy bs V59) (fun n60 ih61 v57 v58 V59 => ?_) (fun _ _ _ => rfl) FU 0 0 V
          rw [f_X12_broken_L22]
          refine ag_iload_n dX12_broken_22 rfl ?_
          refine ag_aload_n dX12_broken_23 rfl ?_
          refine gM_X12_size ho0 fl_X12_175 dX12_broken_24 ?_
          refine ag_bipush (v := 16) dX12_broken_27 (by decide) ?_
          refine ag_idiv dX12_broken_29 (by decide) ?_
          refine ag_icmp_ge (tgt := 95) dX12_broken_30 (by decide) (fun h62 => ?_) (fun h62 => ?_)
          · refine ag_drop [3] (L' := [some (.ref (bs + posM 10 o0)), some (.int x1), some (.int v57), none]) rfl ?_
            exact hk5 v57 V59
          · refine ag_iload_n dX12_broken_33 rfl ?_
            refine ag_iconst (v := 1) dX12_broken_34 (by decide) ?_
            refine ag_icmp_eq (tgt := 95) dX12_broken_35 (by decide) (fun h63 => ?_) (fun h63 => ?_)
            · refine ag_drop [3] (L' := [some (.ref (bs + posM 10 o0)), some (.int x1), some (.int v57), none]) rfl ?_
              exact hk5 v57 V59
            · refine ag_aload_n dX12_broken_38 rfl ?_
              refine ag_bipush (v := 16) dX12_broken_39 (by decide) ?_
              refine ag_iload_n dX12_broken_41 rfl ?_
              refine ag_imul dX12_broken_42 ?_
              refine ag_sipush (v := 585) dX12_broken_43 (by decide) ?_
              refine ag_bnd (fun p64 hp64 => ?_)
              refine ag_ivVe (c_X12_getCapability o0 (16 * v58) 585 ho0 hp64) vwM_D (vwM_at (kpM_10 _ ho0)) rfl cs_X12_414 rfl rfl (Nat.le_of_ble_eq_true rfl) ⟨by decide, by decide⟩ ⟨Nat.zero_le _, Nat.zero_le _⟩ dX12_broken_46 ?_
              refine ag_iload_n dX12_broken_49 rfl ?_
              refine ag_iload_n dX12_broken_50 rfl ?_
              refine ag_jn1 (j := 87) (L1 := fun v65 => [some (.ref (bs + posM 10 o0)), some (.int x1), some (.int v57), some (.int v58)]) (st1 := fun v65 => [.int (b2i v65), .int v57]) (ws1 := fun v65 => vwM cy bs p64) (fun v65 => ?_) (fun k66 hk67 => ?_)
              · refine ag_iadd dX12_broken_87 ?_
                refine ag_ltI (fun v68 => ?_)
                refine ag_istore_n (L' := [some (.ref (bs + posM 10 o0)), some (.int x1), some (.int v68), some (.int v58)]) dX12_broken_88 (by decide) rfl ?_
                refine ag_iincL (L' := fun v69 => [some (.ref (bs + posM 10 o0)), some (.int x1), some (.int v68), some (.int v69)]) dX12_broken_89 (by decide) rfl (by decide) (fun _ => rfl) (fun v69 => ?_)
                refine ag_goto (tgt := 22) dX12_broken_92 (by decide) ?_
                exact ih61 v68 v69 p64
              · refine ag_if_ne (tgt := 72) dX12_broken_51 (by decide) (fun h70 => ?_) (fun h70 => ?_)
                · refine ag_aload_n dX12_broken_72 rfl ?_
                  refine ag_sipush (v := 585) dX12_broken_73 (by decide) ?_
                  refine ag_bnd (fun p71 hp71 => ?_)
                  refine ag_ivZp (c_X12_isStray o0 585 ho0 hp71) vwM_D (vwM_at (kpM_10 _ ho0)) rfl cs_X12_528 rfl rfl (Nat.le_of_ble_eq_true rfl) ⟨by decide, by decide⟩ ⟨Nat.zero_le _, Nat.zero_le _⟩ dX12_broken_76 ?_
                  refine ag_bif_eq (tgt := 86) dX12_broken_79 (by decide) (fun h72 => ?_) (fun h72 => ?_)
                  · refine ag_iconst (v := 0) dX12_broken_86 (by decide) ?_
                    exact hk67 false
                  · refine ag_iconst (v := 1) dX12_broken_82 (by decide) ?_
                    refine ag_goto (tgt := 87) dX12_broken_83 (by decide) ?_
                    exact hk67 true
                · refine ag_aload_n dX12_broken_54 rfl ?_
                  refine ag_sipush (v := 585) dX12_broken_55 (by decide) ?_
                  refine ag_bnd (fun p73 hp73 => ?_)
                  refine ag_ivZp (c_X12_isMore o0 585 ho0 hp73) vwM_D (vwM_at (kpM_10 _ ho0)) rfl cs_X12_525 rfl rfl (Nat.le_of_ble_eq_true rfl) ⟨by decide, by decide⟩ ⟨Nat.zero_le _, Nat.zero_le _⟩ dX12_broken_58 ?_
                  refine ag_bif_eq (tgt := 68) dX12_broken_61 (by decide) (fun h74 => ?_) (fun h74 => ?_)
                  · refine ag_iconst (v := 0) dX12_broken_68 (by decide) ?_
                    refine ag_goto (tgt := 87) dX12_broken_69 (by decide) ?_
                    exact hk67 false
                  · refine ag_iconst (v := 1) dX12_broken_64 (by decide) ?_
                    refine ag_goto (tgt := 87) dX12_broken_65 (by decide) ?_
                    exact hk67 true
      · refine ag_iconst (v := 0) dX12_broken_16 (by decide) ?_
        exact ag_irep dX12_broken_17
