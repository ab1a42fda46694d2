set_option maxRecDepth 100000 in
set_option maxHeartbeats 4000000 in
theorem c_X12_fetch {l : Launch} {D : va_G} {cy : Nat → ClassId} {bs : Nat} {V : HV} (o0 : Nat) (ho0 : o0 < 1) {z : Int64 × HV} (hz : f_X12_fetch o0 V = some z) : CM l (aG 57 bs) D (tyL cy) (vwM cy bs) yX12_fetch cX12_fetch 5 (some .long) 0 0 tvJ [.ref (bs + posM 10 o0)] V z := by
  refine cm_of vwM_D (by decide +kernel) (own := RX12) rfl (Nat.le_of_ble_eq_true rfl) (L := [some (.ref (bs + posM 10 o0)), none, none, none, none]) rfl hz (fun Γ => ?_)
  unfold f_X12_fetch
  refine ag_aload_n dX12_fetch_0 rfl ?_
  refine gM_X12_outMany ho0 fl_X12_243 dX12_fetch_1 ?_
  refine ag_bipush (v := 7) dX12_fetch_4 (by decide) ?_
  refine ag_dv (j := 18) (L1 := fun _ => [some (.ref (bs + posM 10 o0)), none, none, none, none]) (st1 := fun v1 => [.int v1]) (ws1 := fun _ => vwM cy bs V) (fun v1 => ?_) (fun k22 hk2 => ?_)
  · refine ag_istore_n (L' := [some (.ref (bs + posM 10 o0)), some (.int v1), none, none, none]) dX12_fetch_18 (by decide) rfl ?_
    refine ag_iload_n dX12_fetch_19 rfl ?_
    refine ag_i2l dX12_fetch_20 ?_
    refine ag_ltJ (fun v3 => ?_)
    refine ag_lstore_n (L' := [some (.ref (bs + posM 10 o0)), some (.int v1), some (.long v3), none, none]) dX12_fetch_21 (by decide) rfl ?_
    refine ag_iconst (v := 0) dX12_fetch_22 (by decide) ?_
    refine ag_istore (L' := [some (.ref (bs + posM 10 o0)), some (.int v1), some (.long v3), none, some (.int 0)]) dX12_fetch_23 (by decide) rfl ?_
    refine ag_jn1 (j := 69) (L1 := fun v6 => [some (.ref (bs + posM 10 o0)), some (.int v1), some (.long v6), none, none]) (st1 := fun v6 => []) (ws1 := fun v6 => vwM cy bs V) (fun v6 => ?_) (fun k4 hk5 => ?_)
    · refine ag_aload_n dX12_fetch_69 rfl ?_
      refine ag_aload_n dX12_fetch_70 rfl ?_
      refine gM_X12_outFirst ho0 fl_X12_240 dX12_fetch_71 ?_
      refine ag_iload_n dX12_fetch_74 rfl ?_
      refine ag_iadd dX12_fetch_75 ?_
      refine ag_sipush (v := 500) dX12_fetch_76 (by decide) ?_
      refine ag_irem dX12_fetch_79 (by decide) ?_
      refine pM_X12_outFirst ho0 fl_X12_240 dX12_fetch_80 ?_
      refine ag_ltV (fun V7 => ?_)
      refine ag_aload_n dX12_fetch_83 rfl ?_
      refine ag_dup dX12_fetch_84 rfl ?_
      refine gM_X12_outMany ho0 fl_X12_243 dX12_fetch_85 ?_
      refine ag_iload_n dX12_fetch_88 rfl ?_
      refine ag_isub dX12_fetch_89 ?_
      refine pM_X12_outMany ho0 fl_X12_243 dX12_fetch_90 ?_
      refine ag_ltV (fun V8 => ?_)
      refine ag_lload_n dX12_fetch_93 rfl ?_
      exact ag_lrep dX12_fetch_94
    · refine ag_loop2 (F := f_X12_fetch_L25 o0 V v1 k4) (L1 := fun v9 v10 => [some (.ref (bs + posM 10 o0)), some (.int v1), some (.long v9), none, some (.int v10)]) (st1 := fun v9 v10 => []) (ws1 := fun v9 v10 => vwM cy bs V) (fun n11 ih12 v9 v10 => ?_) (fun _ _ => rfl) FU v3 0
      rw [f_X12_fetch_L25]
      refine ag_iload dX12_fetch_25 rfl ?_
      refine ag_bipush (v := 7) dX12_fetch_27 (by decide) ?_
      refine ag_icmp_ge (tgt := 69) dX12_fetch_29 (by decide) (fun h13 => ?_) (fun h13 => ?_)
      · refine ag_drop [4] (L' := [some (.ref (bs + posM 10 o0)), some (.int v1), some (.long v9), none, none]) rfl ?_
        exact hk5 v9
      · refine ag_lload_n dX12_fetch_32 rfl ?_
        refine ag_bipush (v := 8) dX12_fetch_33 (by decide) ?_
        refine ag_lshl dX12_fetch_35 ?_
        refine ag_ltJ (fun v14 => ?_)
        refine ag_lstore_n (L' := [some (.ref (bs + posM 10 o0)), some (.int v1), some (.long v14), none, some (.int v10)]) dX12_fetch_36 (by decide) rfl ?_
        refine ag_iload dX12_fetch_37 rfl ?_
        refine ag_iload_n dX12_fetch_39 rfl ?_
        refine ag_jn1 (j := 63) (L1 := fun v15 => [some (.ref (bs + posM 10 o0)), some (.int v1), some (.long v15), none, some (.int v10)]) (st1 := fun v15 => []) (ws1 := fun v15 => vwM cy bs V) (fun v15 => ?_) (fun k16 hk17 => ?_)
        · refine ag_iincL (L' := fun v18 => [some (.ref (bs + posM 10 o0)), some (.int v1), some (.long v15), none, some (.int v18)]) dX12_fetch_63 (by decide) rfl (by decide) (fun _ => rfl) (fun v18 => ?_)
          refine ag_goto (tgt := 25) dX12_fetch_66 (by decide) ?_
          exact ih12 v15 v18
        · refine ag_icmp_ge (tgt := 63) dX12_fetch_40 (by decide) (fun h19 => ?_) (fun h19 => ?_)
          · exact hk17 v14
          · refine ag_lload_n dX12_fetch_43 rfl ?_
            refine ag_aload_n dX12_fetch_44 rfl ?_
            refine gM_X12_out ho0 fl_X12_136 dX12_fetch_45 ?_
            refine ag_aload_n dX12_fetch_48 rfl ?_
            refine gM_X12_outFirst ho0 fl_X12_240 dX12_fetch_49 ?_
            refine ag_iload dX12_fetch_52 rfl ?_
            refine ag_iadd dX12_fetch_54 ?_
            refine ag_sipush (v := 500) dX12_fetch_55 (by decide) ?_
            refine ag_irem dX12_fetch_58 (by decide) ?_
            refine ag_chk (fun h20 => ?_)
            refine aM_85 (by decide) h20 dX12_fetch_59 ?_
            refine ag_i2l dX12_fetch_60 ?_
            refine ag_lor dX12_fetch_61 ?_
            refine ag_ltJ (fun v21 => ?_)
            refine ag_lstore_n (L' := [some (.ref (bs + posM 10 o0)), some (.int v1), some (.long v21), none, some (.int v10)]) dX12_fetch_62 (by decide) rfl ?_
            exact hk17 v21
  · refine ag_icmp_ge_v (tgt := 16) dX12_fetch_6 (by decide) (fun h23 => ?_) (fun h23 => ?_)
    · refine ag_bipush (v := 7) dX12_fetch_16 (by decide) ?_
      exact hk2 7
    · refine ag_aload_n dX12_fetch_9 rfl ?_
      refine gM_X12_outMany ho0 fl_X12_243 dX12_fetch_10 ?_
      refine ag_goto (tgt := 18) dX12_fetch_13 (by decide) ?_
      exact hk2 (V 1067 o0 0)
set_option maxRecDepth 100000 in
set_option maxHeartbeats 4000000 in
theorem c_X12_register {l : Launch} {D : va_G} {cy : Nat → ClassId} {bs : Nat} {V : HV} (o0 : Nat) (x1 : Int32) (x2 : Int32) (x3 : Int32) (ho0 : o0 < 1) {z : Int64} (hz : f_X12_register o0 x1 x2 x3 V = some z) : CM l (aG 57 bs) D (tyL cy) (vwM cy bs) yX12_register cX12_register 5 (some .long) 1 21 tvJ [.ref (bs + posM 10 o0), .int x1, .int x2, .int x3] V (z, V) := by
  refine cm_of vwM_D (by decide +kernel) (own := RX12) rfl (Nat.le_of_ble_eq_true rfl) (L := [some (.ref (bs + posM 10 o0)), some (.int x1), some (.int x2), some (.int x3), none]) rfl hz (fun Γ => ?_)
  unfold f_X12_register
  refine ag_iload_n dX12_register_0 rfl ?_
  refine ag_if_lt (tgt := 22) dX12_register_1 (by decide) (fun h1 => ?_) (fun h1 => ?_)
  · refine ag_ldc2 kc_X12_521 dX12_register_22 ?_
    exact ag_lrpp dX12_register_25
  · refine ag_iload_n dX12_register_4 rfl ?_
    refine ag_aload_n dX12_register_5 rfl ?_
    refine gM_X12_threads ho0 fl_X12_198 dX12_register_6 ?_
    refine ag_icmp_ge (tgt := 22) dX12_register_9 (by decide) (fun h2 => ?_) (fun h2 => ?_)
    · refine ag_ldc2 kc_X12_521 dX12_register_22 ?_
      exact ag_lrpp dX12_register_25
    · refine ag_iload_n dX12_register_12 rfl ?_
      refine ag_if_lt (tgt := 22) dX12_register_13 (by decide) (fun h3 => ?_) (fun h3 => ?_)
      · refine ag_ldc2 kc_X12_521 dX12_register_22 ?_
        exact ag_lrpp dX12_register_25
      · refine ag_iload_n dX12_register_16 rfl ?_
        refine ag_bipush (v := 16) dX12_register_17 (by decide) ?_
        refine ag_icmp_le (tgt := 26) dX12_register_19 (by decide) (fun h4 => ?_) (fun h4 => ?_)
        · refine ag_iload_n dX12_register_26 rfl ?_
          refine ag_iload_n dX12_register_27 rfl ?_
          refine ag_isIp (c_X12_reg x1 x2  rfl) vwM_D cs_X12_307 rfl rfl (Nat.le_of_ble_eq_true rfl) ⟨by decide, by decide⟩ ⟨Nat.zero_le _, Nat.zero_le _⟩ dX12_register_28 ?_
          refine ag_ltI (fun v5 => ?_)
          refine ag_istore (L' := [some (.ref (bs + posM 10 o0)), some (.int x1), some (.int x2), some (.int x3), some (.int v5)]) dX12_register_31 (by decide) rfl ?_
          refine ag_iload_n dX12_register_33 rfl ?_
          refine ag_if (fun h6 => ?_) (fun h6 => ?_)
          · refine ag_tab (off := 38) (tgt := 72) h6 dX12_register_34 (by decide) (by decide) (by decide) (by decide) ?_
            refine ag_aload_n dX12_register_72 rfl ?_
            refine gM_X12_cursor ho0 fl_X12_7 dX12_register_73 ?_
            refine ag_iload dX12_register_76 rfl ?_
            refine ag_chk (fun h7 => ?_)
            refine aM_24 (by decide) h7 dX12_register_78 ?_
            refine ag_isJp (c_X12_plain (V 2400 0 (v5).toNatClampNeg)  rfl) vwM_D cs_X12_260 rfl rfl (Nat.le_of_ble_eq_true rfl) ⟨by decide, by decide⟩ ⟨Nat.zero_le _, Nat.zero_le _⟩ dX12_register_79 ?_
            refine ag_ltJ (fun v8 => ?_)
            exact ag_lrpp dX12_register_82
          · refine ag_if (fun h9 => ?_) (fun h9 => ?_)
            · refine ag_tab (off := 49) (tgt := 83) h9 dX12_register_34 (by decide) (by decide) (by decide) (by decide) ?_
              refine ag_aload_n dX12_register_83 rfl ?_
              refine gM_X12_base ho0 fl_X12_13 dX12_register_84 ?_
              refine ag_iload dX12_register_87 rfl ?_
              refine ag_chk (fun h10 => ?_)
              refine aM_25 (by decide) h10 dX12_register_89 ?_
              refine ag_isJp (c_X12_plain (V 2500 0 (v5).toNatClampNeg)  rfl) vwM_D cs_X12_260 rfl rfl (Nat.le_of_ble_eq_true rfl) ⟨by decide, by decide⟩ ⟨Nat.zero_le _, Nat.zero_le _⟩ dX12_register_90 ?_
              refine ag_ltJ (fun v11 => ?_)
              exact ag_lrpp dX12_register_93
            · refine ag_if (fun h12 => ?_) (fun h12 => ?_)
              · refine ag_tab (off := 60) (tgt := 94) h12 dX12_register_34 (by decide) (by decide) (by decide) (by decide) ?_
                refine ag_aload_n dX12_register_94 rfl ?_
                refine gM_X12_top ho0 fl_X12_16 dX12_register_95 ?_
                refine ag_iload dX12_register_98 rfl ?_
                refine ag_chk (fun h13 => ?_)
                refine aM_26 (by decide) h13 dX12_register_100 ?_
                refine ag_isJp (c_X12_plain (V 2600 0 (v5).toNatClampNeg)  rfl) vwM_D cs_X12_260 rfl rfl (Nat.le_of_ble_eq_true rfl) ⟨by decide, by decide⟩ ⟨Nat.zero_le _, Nat.zero_le _⟩ dX12_register_101 ?_
                refine ag_ltJ (fun v14 => ?_)
                exact ag_lrpp dX12_register_104
              · refine ag_if (fun h15 => ?_) (fun h15 => ?_)
                · refine ag_tab (off := 71) (tgt := 105) h15 dX12_register_34 (by decide) (by decide) (by decide) (by decide) ?_
                  refine ag_aload_n dX12_register_105 rfl ?_
                  refine gM_X12_perms ho0 fl_X12_19 dX12_register_106 ?_
                  refine ag_iload dX12_register_109 rfl ?_
                  refine ag_chk (fun h16 => ?_)
                  refine aM_27 (by decide) h16 dX12_register_111 ?_
                  refine ag_i2l dX12_register_112 ?_
                  exact ag_lrpp dX12_register_113
                · refine ag_if (fun h17 => ?_) (fun h17 => ?_)
                  · refine ag_tab (off := 80) (tgt := 114) h17 dX12_register_34 (by decide) (by decide) (by decide) (by decide) ?_
                    refine ag_aload_n dX12_register_114 rfl ?_
                    refine gM_X12_type ho0 fl_X12_22 dX12_register_115 ?_
                    refine ag_iload dX12_register_118 rfl ?_
                    refine ag_chk (fun h18 => ?_)
                    refine aM_28 (by decide) h18 dX12_register_120 ?_
                    refine ag_i2l dX12_register_121 ?_
                    exact ag_lrpp dX12_register_122
                  · refine ag_if (fun h19 => ?_) (fun h19 => ?_)
                    · refine ag_tab (off := 89) (tgt := 123) h19 dX12_register_34 (by decide) (by decide) (by decide) (by decide) ?_
                      refine ag_aload_n dX12_register_123 rfl ?_
                      refine gM_X12_tag ho0 fl_X12_25 dX12_register_124 ?_
                      refine ag_iload dX12_register_127 rfl ?_
                      refine ag_chk (fun h20 => ?_)
                      refine aM_29 (by decide) h20 dX12_register_129 ?_
                      refine ag_dv (j := 138) (L1 := fun _ => [some (.ref (bs + posM 10 o0)), some (.int x1), some (.int x2), some (.int x3), some (.int v5)]) (st1 := fun v21 => [.long v21]) (ws1 := fun _ => vwM cy bs V) (fun v21 => ?_) (fun k23 hk22 => ?_)
                      · exact ag_lrpp dX12_register_138
                      · refine ag_bif_eq_v (tgt := 137) dX12_register_130 (by decide) (fun h24 => ?_) (fun h24 => ?_)
                        · refine ag_lconst (v := 0) dX12_register_137 (by decide) ?_
                          exact hk22 (0 : Int64)
                        · refine ag_lconst (v := 1) dX12_register_133 (by decide) ?_
                          refine ag_goto (tgt := 138) dX12_register_134 (by decide) ?_
                          exact hk22 (1 : Int64)
                    · refine ag_tabD (tgt := 139) dX12_register_34 (by have z0 := lv_neT h6 (k := 0) (a := 0) (by decide); have z1 := lv_neT h9 (k := 1) (a := 1) (by decide); have z2 := lv_neT h12 (k := 2) (a := 2) (by decide); have z3 := lv_neT h15 (k := 3) (a := 3) (by decide); have z4 := lv_neT h17 (k := 4) (a := 4) (by decide); have z5 := lv_neT h19 (k := 5) (a := 5) (by decide); omega) (by decide) ?_
                      refine ag_ldc2 kc_X12_521 dX12_register_139 ?_
                      exact ag_lrpp dX12_register_142
        · refine ag_ldc2 kc_X12_521 dX12_register_22 ?_
          exact ag_lrpp dX12_register_25
set_option maxRecDepth 100000 in
set_option maxHeartbeats 4000000 in
theorem c_X12_memory {l : Launch} {D : va_G} {cy : Nat → ClassId} {bs : Nat} {V : HV} (o0 : Nat) (x1 : Int32) (x2 : Int32) (ho0 : o0 < 1) {z : Int64} (hz : f_X12_memory o0 x1 x2 V = some z) : CM l (aG 57 bs) D (tyL cy) (vwM cy bs) yX12_memory cX12_memory 3 (some .long) 1 24 tvJ [.ref (bs + posM 10 o0), .int x1, .int x2] V (z, V) := by
  refine cm_of vwM_D (by decide +kernel) (own := RX12) rfl (Nat.le_of_ble_eq_true rfl) (L := [some (.ref (bs + posM 10 o0)), some (.int x1), some (.int x2)]) rfl hz (fun Γ => ?_)
  unfold f_X12_memory
  refine ag_aload_n dX12_memory_0 rfl ?_
  refine gM_X12_booted ho0 fl_X12_191 dX12_memory_1 ?_
  refine ag_bif_eq (tgt := 36) dX12_memory_4 (by decide) (fun h1 => ?_) (fun h1 => ?_)
  · refine ag_ldc2 kc_X12_521 dX12_memory_36 ?_
    exact ag_lrpp dX12_memory_39
  · refine ag_iload_n dX12_memory_7 rfl ?_
    refine ag_iconst (v := 1) dX12_memory_8 (by decide) ?_
    refine ag_jn0 (j := 22) (L1 := [some (.ref (bs + posM 10 o0)), some (.int x1), some (.int x2)]) (st1 := []) (ws1 := vwM cy bs V) (?_) (fun k2 hk3 => ?_)
    · refine ag_iload_n dX12_memory_22 rfl ?_
      refine ag_if_lt (tgt := 36) dX12_memory_23 (by decide) (fun h4 => ?_) (fun h4 => ?_)
      · refine ag_ldc2 kc_X12_521 dX12_memory_36 ?_
        exact ag_lrpp dX12_memory_39
      · refine ag_iload_n dX12_memory_26 rfl ?_
        refine ag_aload_n dX12_memory_27 rfl ?_
        refine gM_X12_size ho0 fl_X12_175 dX12_memory_28 ?_
        refine ag_iload_n dX12_memory_31 rfl ?_
        refine ag_isub dX12_memory_32 ?_
        refine ag_icmp_le (tgt := 40) dX12_memory_33 (by decide) (fun h5 => ?_) (fun h5 => ?_)
        · refine ag_aload_n dX12_memory_40 rfl ?_
          refine ag_iload_n dX12_memory_41 rfl ?_
          refine ag_iload_n dX12_memory_42 rfl ?_
          refine ag_bnd (fun p6 hp6 => ?_)
          refine ag_ivIp (c_X12_get o0 x1 x2 ho0 hp6) vwM_D (vwM_at (kpM_10 _ ho0)) rfl cs_X12_264 rfl rfl (Nat.le_of_ble_eq_true rfl) ⟨by decide, by decide⟩ ⟨Nat.zero_le _, Nat.zero_le _⟩ dX12_memory_43 ?_
          refine ag_isJp (c_X12_plain p6  rfl) vwM_D cs_X12_260 rfl rfl (Nat.le_of_ble_eq_true rfl) ⟨by decide, by decide⟩ ⟨Nat.zero_le _, Nat.zero_le _⟩ dX12_memory_46 ?_
          refine ag_ltJ (fun v7 => ?_)
          exact ag_lrpp dX12_memory_49
        · refine ag_ldc2 kc_X12_521 dX12_memory_36 ?_
          exact ag_lrpp dX12_memory_39
    · refine ag_icmp_eq (tgt := 22) dX12_memory_9 (by decide) (fun h8 => ?_) (fun h8 => ?_)
      · exact hk3
      · refine ag_iload_n dX12_memory_12 rfl ?_
        refine ag_iconst (v := 2) dX12_memory_13 (by decide) ?_
        refine ag_icmp_eq (tgt := 22) dX12_memory_14 (by decide) (fun h9 => ?_) (fun h9 => ?_)
        · exact hk3
        · refine ag_iload_n dX12_memory_17 rfl ?_
          refine ag_iconst (v := 4) dX12_memory_18 (by decide) ?_
          refine ag_icmp_ne (tgt := 36) dX12_memory_19 (by decide) (fun h10 => ?_) (fun h10 => ?_)
          · refine ag_ldc2 kc_X12_521 dX12_memory_36 ?_
            exact ag_lrpp dX12_memory_39
          · exact hk3
set_option maxRecDepth 100000 in
set_option maxHeartbeats 4000000 in
theorem c_X12_tag {l : Launch} {D : va_G} {cy : Nat → ClassId} {bs : Nat} {V : HV} (o0 : Nat) (x1 : Int32) (ho0 : o0 < 1) {z : Int32} (hz : f_X12_tag o0 x1 V = some z) : CM l (aG 57 bs) D (tyL cy) (vwM cy bs) yX12_tag cX12_tag 2 (some .int) 0 0 tvI [.ref (bs + posM 10 o0), .int x1] V (z, V) := by
  refine cm_of vwM_D (by decide +kernel) (own := RX12) rfl (Nat.le_of_ble_eq_true rfl) (L := [some (.ref (bs + posM 10 o0)), some (.int x1)]) rfl hz (fun Γ => ?_)
  unfold f_X12_tag
  refine ag_aload_n dX12_tag_0 rfl ?_
  refine gM_X12_booted ho0 fl_X12_191 dX12_tag_1 ?_
  refine ag_bif_eq (tgt := 22) dX12_tag_4 (by decide) (fun h1 => ?_) (fun h1 => ?_)
  · refine ag_iconst (v := (-1)) dX12_tag_22 (by decide) ?_
    exact ag_irpp dX12_tag_23
  · refine ag_iload_n dX12_tag_7 rfl ?_
    refine ag_if_lt (tgt := 22) dX12_tag_8 (by decide) (fun h2 => ?_) (fun h2 => ?_)
    · refine ag_iconst (v := (-1)) dX12_tag_22 (by decide) ?_
      exact ag_irpp dX12_tag_23
    · refine ag_iload_n dX12_tag_11 rfl ?_
      refine ag_aload_n dX12_tag_12 rfl ?_
      refine gM_X12_size ho0 fl_X12_175 dX12_tag_13 ?_
      refine ag_bipush (v := 16) dX12_tag_16 (by decide) ?_
      refine ag_idiv dX12_tag_18 (by decide) ?_
      refine ag_icmp_lt (tgt := 24) dX12_tag_19 (by decide) (fun h3 => ?_) (fun h3 => ?_)
      · refine ag_aload_n dX12_tag_24 rfl ?_
        refine gM_X12_tags ho0 fl_X12_182 dX12_tag_25 ?_
        refine ag_iload_n dX12_tag_28 rfl ?_
        refine ag_chk (fun h4 => ?_)
        refine aM_22 (by decide) h4 dX12_tag_29 ?_
        refine ag_dv (j := 38) (L1 := fun _ => [some (.ref (bs + posM 10 o0)), some (.int x1)]) (st1 := fun v5 => [.int (b2i v5)]) (ws1 := fun _ => vwM cy bs V) (fun v5 => ?_) (fun k12 hk6 => ?_)
        · refine ag_aload_n dX12_tag_38 rfl ?_
          refine gM_X12_revoked ho0 fl_X12_185 dX12_tag_39 ?_
          refine ag_iload_n dX12_tag_42 rfl ?_
          refine ag_chk (fun h7 => ?_)
          refine aM_23 (by decide) h7 dX12_tag_43 ?_
          refine ag_dv (j := 52) (L1 := fun _ => [some (.ref (bs + posM 10 o0)), some (.int x1)]) (st1 := fun v8 => [.int v8, .int (b2i v5)]) (ws1 := fun _ => vwM cy bs V) (fun v8 => ?_) (fun k10 hk9 => ?_)
          · refine ag_iadd dX12_tag_52 ?_
            exact ag_irpp dX12_tag_53
          · refine ag_bif_eq_v (tgt := 51) dX12_tag_44 (by decide) (fun h11 => ?_) (fun h11 => ?_)
            · refine ag_iconst (v := 0) dX12_tag_51 (by decide) ?_
              exact hk9 0
            · refine ag_iconst (v := 2) dX12_tag_47 (by decide) ?_
              refine ag_goto (tgt := 52) dX12_tag_48 (by decide) ?_
              exact hk9 2
        · refine ag_bif_eq_v (tgt := 37) dX12_tag_30 (by decide) (fun h13 => ?_) (fun h13 => ?_)
          · refine ag_iconst (v := 0) dX12_tag_37 (by decide) ?_
            exact hk6 false
          · refine ag_iconst (v := 1) dX12_tag_33 (by decide) ?_
            refine ag_goto (tgt := 38) dX12_tag_34 (by decide) ?_
            exact hk6 true
      · refine ag_iconst (v := (-1)) dX12_tag_22 (by decide) ?_
        exact ag_irpp dX12_tag_23
set_option maxRecDepth 100000 in
set_option maxHeartbeats 4000000 in
theorem c_X12_thread {l : Launch} {D : va_G} {cy : Nat → ClassId} {bs : Nat} {V : HV} (o0 : Nat) (x1 : Int32) (x2 : Int32) (ho0 : o0 < 1) {z : Int32} (hz : f_X12_thread o0 x1 x2 V = some z) : CM l (aG 57 bs) D (tyL cy) (vwM cy bs) yX12_thread cX12_thread 3 (some .int) 0 0 tvI [.ref (bs + posM 10 o0), .int x1, .int x2] V (z, V) := by
  refine cm_of vwM_D (by decide +kernel) (own := RX12) rfl (Nat.le_of_ble_eq_true rfl) (L := [some (.ref (bs + posM 10 o0)), some (.int x1), some (.int x2)]) rfl hz (fun Γ => ?_)
  unfold f_X12_thread
  refine ag_iload_n dX12_thread_0 rfl ?_
  refine ag_if_lt (tgt := 12) dX12_thread_1 (by decide) (fun h1 => ?_) (fun h1 => ?_)
  · refine ag_iconst (v := (-1)) dX12_thread_12 (by decide) ?_
    exact ag_irpp dX12_thread_13
  · refine ag_iload_n dX12_thread_4 rfl ?_
    refine ag_aload_n dX12_thread_5 rfl ?_
    refine gM_X12_threads ho0 fl_X12_198 dX12_thread_6 ?_
    refine ag_icmp_lt (tgt := 14) dX12_thread_9 (by decide) (fun h2 => ?_) (fun h2 => ?_)
    · refine ag_iload_n dX12_thread_14 rfl ?_
      refine ag_if (fun h3 => ?_) (fun h3 => ?_)
      · refine ag_tab (off := 45) (tgt := 60) h3 dX12_thread_15 (by decide) (by decide) (by decide) (by decide) ?_
        refine ag_aload_n dX12_thread_60 rfl ?_
        refine gM_X12_state ho0 fl_X12_61 dX12_thread_61 ?_
        refine ag_iload_n dX12_thread_64 rfl ?_
        refine ag_chk (fun h4 => ?_)
        refine aM_47 (by decide) h4 dX12_thread_65 ?_
        exact ag_irpp dX12_thread_66
      · refine ag_if (fun h5 => ?_) (fun h5 => ?_)
        · refine ag_tab (off := 52) (tgt := 67) h5 dX12_thread_15 (by decide) (by decide) (by decide) (by decide) ?_
          refine ag_aload_n dX12_thread_67 rfl ?_
          refine gM_X12_home ho0 fl_X12_67 dX12_thread_68 ?_
          refine ag_iload_n dX12_thread_71 rfl ?_
          refine ag_chk (fun h6 => ?_)
          refine aM_49 (by decide) h6 dX12_thread_72 ?_
          exact ag_irpp dX12_thread_73
        · refine ag_if (fun h7 => ?_) (fun h7 => ?_)
          · refine ag_tab (off := 59) (tgt := 74) h7 dX12_thread_15 (by decide) (by decide) (by decide) (by decide) ?_
            refine ag_aload_n dX12_thread_74 rfl ?_
            refine gM_X12_depth ho0 fl_X12_70 dX12_thread_75 ?_
            refine ag_iload_n dX12_thread_78 rfl ?_
            refine ag_chk (fun h8 => ?_)
            refine aM_50 (by decide) h8 dX12_thread_79 ?_
            exact ag_irpp dX12_thread_80
          · refine ag_if (fun h9 => ?_) (fun h9 => ?_)
            · refine ag_tab (off := 66) (tgt := 81) h9 dX12_thread_15 (by decide) (by decide) (by decide) (by decide) ?_
              refine ag_aload_n dX12_thread_81 rfl ?_
              refine gM_X12_on ho0 fl_X12_76 dX12_thread_82 ?_
              refine ag_iload_n dX12_thread_85 rfl ?_
              refine ag_chk (fun h10 => ?_)
              refine aM_52 (by decide) h10 dX12_thread_86 ?_
              refine ag_dv (j := 95) (L1 := fun _ => [some (.ref (bs + posM 10 o0)), some (.int x1), some (.int x2)]) (st1 := fun v11 => [.int (b2i v11)]) (ws1 := fun _ => vwM cy bs V) (fun v11 => ?_) (fun k13 hk12 => ?_)
              · exact ag_irpp dX12_thread_95
              · refine ag_bif_eq_v (tgt := 94) dX12_thread_87 (by decide) (fun h14 => ?_) (fun h14 => ?_)
                · refine ag_iconst (v := 0) dX12_thread_94 (by decide) ?_
                  exact hk12 false
                · refine ag_iconst (v := 1) dX12_thread_90 (by decide) ?_
                  refine ag_goto (tgt := 95) dX12_thread_91 (by decide) ?_
                  exact hk12 true
            · refine ag_if (fun h15 => ?_) (fun h15 => ?_)
              · refine ag_tab (off := 81) (tgt := 96) h15 dX12_thread_15 (by decide) (by decide) (by decide) (by decide) ?_
                refine ag_aload_n dX12_thread_96 rfl ?_
                refine gM_X12_lastFault ho0 fl_X12_79 dX12_thread_97 ?_
                refine ag_iload_n dX12_thread_100 rfl ?_
                refine ag_chk (fun h16 => ?_)
                refine aM_53 (by decide) h16 dX12_thread_101 ?_
                exact ag_irpp dX12_thread_102
              · refine ag_if (fun h17 => ?_) (fun h17 => ?_)
                · refine ag_tab (off := 88) (tgt := 103) h17 dX12_thread_15 (by decide) (by decide) (by decide) (by decide) ?_
                  refine ag_aload_n dX12_thread_103 rfl ?_
                  refine gM_X12_done ho0 fl_X12_82 dX12_thread_104 ?_
                  refine ag_iload_n dX12_thread_107 rfl ?_
                  refine ag_chk (fun h18 => ?_)
                  refine aM_54 (by decide) h18 dX12_thread_108 ?_
                  exact ag_irpp dX12_thread_109
                · refine ag_if (fun h19 => ?_) (fun h19 => ?_)
                  · refine ag_tab (off := 95) (tgt := 110) h19 dX12_thread_15 (by decide) (by decide) (by decide) (by decide) ?_
                    refine ag_aload_n dX12_thread_110 rfl ?_
                    refine gM_X12_wake ho0 fl_X12_64 dX12_thread_111 ?_
                    refine ag_iload_n dX12_thread_114 rfl ?_
                    refine ag_chk (fun h20 => ?_)
                    refine aM_48 (by decide) h20 dX12_thread_115 ?_
                    exact ag_irpp dX12_thread_116
                  · refine ag_if (fun h21 => ?_) (fun h21 => ?_)
                    · refine ag_tab (off := 102) (tgt := 117) h21 dX12_thread_15 (by decide) (by decide) (by decide) (by decide) ?_
                      refine ag_aload_n dX12_thread_117 rfl ?_
                      refine gM_X12_stackAt ho0 fl_X12_88 dX12_thread_118 ?_
                      refine ag_iload_n dX12_thread_121 rfl ?_
                      refine ag_chk (fun h22 => ?_)
                      refine aM_56 (by decide) h22 dX12_thread_122 ?_
                      exact ag_irpp dX12_thread_123
                    · refine ag_tabD (tgt := 124) dX12_thread_15 (by have z0 := lv_neT h3 (k := 0) (a := 0) (by decide); have z1 := lv_neT h5 (k := 1) (a := 1) (by decide); have z2 := lv_neT h7 (k := 2) (a := 2) (by decide); have z3 := lv_neT h9 (k := 3) (a := 3) (by decide); have z4 := lv_neT h15 (k := 4) (a := 4) (by decide); have z5 := lv_neT h17 (k := 5) (a := 5) (by decide); have z6 := lv_neT h19 (k := 6) (a := 6) (by decide); have z7 := lv_neT h21 (k := 7) (a := 7) (by decide); omega) (by decide) ?_
                      refine ag_iconst (v := (-1)) dX12_thread_124 (by decide) ?_
                      exact ag_irpp dX12_thread_125
    · refine ag_iconst (v := (-1)) dX12_thread_12 (by decide) ?_
      exact ag_irpp dX12_thread_13
set_option maxRecDepth 100000 in
set_option maxHeartbeats 4000000 in
theorem c_X12_compartment {l : Launch} {D : va_G} {cy : Nat → ClassId} {bs : Nat} {V : HV} (o0 : Nat) (x1 : Int32) (x2 : Int32) (ho0 : o0 < 1) {z : Int32} (hz : f_X12_compartment o0 x1 x2 V = some z) : CM l (aG 57 bs) D (tyL cy) (vwM cy bs) yX12_compartment cX12_compartment 3 (some .int) 0 0 tvI [.ref (bs + posM 10 o0), .int x1, .int x2] V (z, V) := by
  refine cm_of vwM_D (by decide +kernel) (own := RX12) rfl (Nat.le_of_ble_eq_true rfl) (L := [some (.ref (bs + posM 10 o0)), some (.int x1), some (.int x2)]) rfl hz (fun Γ => ?_)
  unfold f_X12_compartment
  refine ag_iload_n dX12_compartment_0 rfl ?_
  refine ag_if_lt (tgt := 12) dX12_compartment_1 (by decide) (fun h1 => ?_) (fun h1 => ?_)
  · refine ag_iconst (v := (-1)) dX12_compartment_12 (by decide) ?_
    exact ag_irpp dX12_compartment_13
  · refine ag_iload_n dX12_compartment_4 rfl ?_
    refine ag_aload_n dX12_compartment_5 rfl ?_
    refine gM_X12_compartments ho0 fl_X12_195 dX12_compartment_6 ?_
    refine ag_icmp_lt (tgt := 14) dX12_compartment_9 (by decide) (fun h2 => ?_) (fun h2 => ?_)
    · refine ag_iload_n dX12_compartment_14 rfl ?_
      refine ag_if (fun h3 => ?_) (fun h3 => ?_)
      · refine ag_tab (off := 29) (tgt := 44) h3 dX12_compartment_15 (by decide) (by decide) (by decide) (by decide) ?_
        refine ag_aload_n dX12_compartment_44 rfl ?_
        refine gM_X12_codeAt ho0 fl_X12_40 dX12_compartment_45 ?_
        refine ag_iload_n dX12_compartment_48 rfl ?_
        refine ag_chk (fun h4 => ?_)
        refine aM_40 (by decide) h4 dX12_compartment_49 ?_
        exact ag_irpp dX12_compartment_50
      · refine ag_if (fun h5 => ?_) (fun h5 => ?_)
        · refine ag_tab (off := 36) (tgt := 51) h5 dX12_compartment_15 (by decide) (by decide) (by decide) (by decide) ?_
          refine ag_aload_n dX12_compartment_51 rfl ?_
          refine gM_X12_importsAt ho0 fl_X12_43 dX12_compartment_52 ?_
          refine ag_iload_n dX12_compartment_55 rfl ?_
          refine ag_chk (fun h6 => ?_)
          refine aM_41 (by decide) h6 dX12_compartment_56 ?_
          exact ag_irpp dX12_compartment_57
        · refine ag_if (fun h7 => ?_) (fun h7 => ?_)
          · refine ag_tab (off := 43) (tgt := 58) h7 dX12_compartment_15 (by decide) (by decide) (by decide) (by decide) ?_
            refine ag_aload_n dX12_compartment_58 rfl ?_
            refine gM_X12_globalsAt ho0 fl_X12_46 dX12_compartment_59 ?_
            refine ag_iload_n dX12_compartment_62 rfl ?_
            refine ag_chk (fun h8 => ?_)
            refine aM_42 (by decide) h8 dX12_compartment_63 ?_
            exact ag_irpp dX12_compartment_64
          · refine ag_if (fun h9 => ?_) (fun h9 => ?_)
            · refine ag_tab (off := 50) (tgt := 65) h9 dX12_compartment_15 (by decide) (by decide) (by decide) (by decide) ?_
              refine ag_aload_n dX12_compartment_65 rfl ?_
              refine gM_X12_endAt ho0 fl_X12_49 dX12_compartment_66 ?_
              refine ag_iload_n dX12_compartment_69 rfl ?_
              refine ag_chk (fun h10 => ?_)
              refine aM_43 (by decide) h10 dX12_compartment_70 ?_
              exact ag_irpp dX12_compartment_71
            · refine ag_tabD (tgt := 72) dX12_compartment_15 (by have z0 := lv_neT h3 (k := 0) (a := 0) (by decide); have z1 := lv_neT h5 (k := 1) (a := 1) (by decide); have z2 := lv_neT h7 (k := 2) (a := 2) (by decide); have z3 := lv_neT h9 (k := 3) (a := 3) (by decide); omega) (by decide) ?_
              refine ag_iconst (v := (-1)) dX12_compartment_72 (by decide) ?_
              exact ag_irpp dX12_compartment_73
    · refine ag_iconst (v := (-1)) dX12_compartment_12 (by decide) ?_
      exact ag_irpp dX12_compartment_13
set_option maxRecDepth 100000 in
set_option maxHeartbeats 4000000 in
theorem c_X12_heap {l : Launch} {D : va_G} {cy : Nat → ClassId} {bs : Nat} {V : HV} (o0 : Nat) (x1 : Int32) (ho0 : o0 < 1) {z : Int32} (hz : f_X12_heap o0 x1 V = some z) : CM l (aG 57 bs) D (tyL cy) (vwM cy bs) yX12_heap cX12_heap 7 (some .int) 1 22 tvI [.ref (bs + posM 10 o0), .int x1] V (z, V) := by
  refine cm_of vwM_D (by decide +kernel) (own := RX12) rfl (Nat.le_of_ble_eq_true rfl) (L := [some (.ref (bs + posM 10 o0)), some (.int x1), none, none, none, none, none]) rfl hz (fun Γ => ?_)
  unfold f_X12_heap
  refine ag_aload_n dX12_heap_0 rfl ?_
  refine gM_X12_booted ho0 fl_X12_191 dX12_heap_1 ?_
  refine ag_bif_eq (tgt := 17) dX12_heap_4 (by decide) (fun h1 => ?_) (fun h1 => ?_)
  · refine ag_iconst (v := (-1)) dX12_heap_17 (by decide) ?_
    exact ag_irpp dX12_heap_18
  · refine ag_iload_n dX12_heap_7 rfl ?_
    refine ag_if_lt (tgt := 17) dX12_heap_8 (by decide) (fun h2 => ?_) (fun h2 => ?_)
    · refine ag_iconst (v := (-1)) dX12_heap_17 (by decide) ?_
      exact ag_irpp dX12_heap_18
    · refine ag_iload_n dX12_heap_11 rfl ?_
      refine ag_bipush (v := 7) dX12_heap_12 (by decide) ?_
      refine ag_icmp_ne (tgt := 19) dX12_heap_14 (by decide) (fun h3 => ?_) (fun h3 => ?_)
      · refine ag_iconst (v := 0) dX12_heap_19 (by decide) ?_
        refine ag_istore_n (L' := [some (.ref (bs + posM 10 o0)), some (.int x1), some (.int 0), none, none, none, none]) dX12_heap_20 (by decide) rfl ?_
        refine ag_iconst (v := 0) dX12_heap_21 (by decide) ?_
        refine ag_istore_n (L' := [some (.ref (bs + posM 10 o0)), some (.int x1), some (.int 0), some (.int 0), none, none, none]) dX12_heap_22 (by decide) rfl ?_
        refine ag_iconst (v := 0) dX12_heap_23 (by decide) ?_
        refine ag_istore (L' := [some (.ref (bs + posM 10 o0)), some (.int x1), some (.int 0), some (.int 0), some (.int 0), none, none]) dX12_heap_24 (by decide) rfl ?_
        refine ag_iconst (v := (-1)) dX12_heap_26 (by decide) ?_
        refine ag_istore (L' := [some (.ref (bs + posM 10 o0)), some (.int x1), some (.int 0), some (.int 0), some (.int 0), some (.int (-1)), none]) dX12_heap_27 (by decide) rfl ?_
        refine ag_iconst (v := 0) dX12_heap_29 (by decide) ?_
        refine ag_istore (L' := [some (.ref (bs + posM 10 o0)), some (.int x1), some (.int 0), some (.int 0), some (.int 0), some (.int (-1)), some (.int 0)]) dX12_heap_30 (by decide) rfl ?_
        refine ag_jn4 (j := 102) (L1 := fun v6 v7 v8 v9 => [some (.ref (bs + posM 10 o0)), some (.int x1), some (.int v6), some (.int v7), some (.int v8), some (.int v9), none]) (st1 := fun v6 v7 v8 v9 => []) (ws1 := fun v6 v7 v8 v9 => vwM cy bs V) (fun v6 v7 v8 v9 => ?_) (fun k4 hk5 => ?_)
        · refine ag_iload_n dX12_heap_102 rfl ?_
          refine ag_if (fun h10 => ?_) (fun h10 => ?_)
          · refine ag_tab (off := 41) (tgt := 144) h10 dX12_heap_103 (by decide) (by decide) (by decide) (by decide) ?_
            refine ag_aload_n dX12_heap_144 rfl ?_
            refine gM_X12_heapAt ho0 fl_X12_222 dX12_heap_145 ?_
            exact ag_irpp dX12_heap_148
          · refine ag_if (fun h11 => ?_) (fun h11 => ?_)
            · refine ag_tab (off := 46) (tgt := 149) h11 dX12_heap_103 (by decide) (by decide) (by decide) (by decide) ?_
              refine ag_iload_n dX12_heap_149 rfl ?_
              exact ag_irpp dX12_heap_150
            · refine ag_if (fun h12 => ?_) (fun h12 => ?_)
              · refine ag_tab (off := 48) (tgt := 151) h12 dX12_heap_103 (by decide) (by decide) (by decide) (by decide) ?_
                refine ag_iload_n dX12_heap_151 rfl ?_
                exact ag_irpp dX12_heap_152
              · refine ag_if (fun h13 => ?_) (fun h13 => ?_)
                · refine ag_tab (off := 50) (tgt := 153) h13 dX12_heap_103 (by decide) (by decide) (by decide) (by decide) ?_
                  refine ag_iload dX12_heap_153 rfl ?_
                  exact ag_irpp dX12_heap_155
                · refine ag_if (fun h14 => ?_) (fun h14 => ?_)
                  · refine ag_tab (off := 53) (tgt := 156) h14 dX12_heap_103 (by decide) (by decide) (by decide) (by decide) ?_
                    refine ag_aload_n dX12_heap_156 rfl ?_
                    refine ag_bnd (fun p15 hp15 => ?_)
                    refine ag_ivIp (c_X12_freeBytes o0 ho0 hp15) vwM_D (vwM_at (kpM_10 _ ho0)) rfl cs_X12_491 rfl rfl (Nat.le_of_ble_eq_true rfl) ⟨by decide, by decide⟩ ⟨Nat.zero_le _, Nat.zero_le _⟩ dX12_heap_157 ?_
                    exact ag_irpp dX12_heap_160
                  · refine ag_if (fun h16 => ?_) (fun h16 => ?_)
                    · refine ag_tab (off := 58) (tgt := 161) h16 dX12_heap_103 (by decide) (by decide) (by decide) (by decide) ?_
                      refine ag_aload_n dX12_heap_161 rfl ?_
                      refine gM_X12_sweeps ho0 fl_X12_234 dX12_heap_162 ?_
                      exact ag_irpp dX12_heap_165
                    · refine ag_if (fun h17 => ?_) (fun h17 => ?_)
                      · refine ag_tab (off := 63) (tgt := 166) h17 dX12_heap_103 (by decide) (by decide) (by decide) (by decide) ?_
                        refine ag_aload_n dX12_heap_166 rfl ?_
                        refine gM_X12_sweeper ho0 fl_X12_231 dX12_heap_167 ?_
                        exact ag_irpp dX12_heap_170
                      · refine ag_tabD (tgt := 171) dX12_heap_103 (by have z0 := lv_neT h10 (k := 0) (a := 0) (by decide); have z1 := lv_neT h11 (k := 1) (a := 1) (by decide); have z2 := lv_neT h12 (k := 2) (a := 2) (by decide); have z3 := lv_neT h13 (k := 3) (a := 3) (by decide); have z4 := lv_neT h14 (k := 4) (a := 4) (by decide); have z5 := lv_neT h16 (k := 5) (a := 5) (by decide); have z6 := lv_neT h17 (k := 6) (a := 6) (by decide); omega) (by decide) ?_
                        refine ag_iload dX12_heap_171 rfl ?_
                        exact ag_irpp dX12_heap_173
        · refine ag_loop5 (F := f_X12_heap_L32 o0 x1 V k4) (L1 := fun v19 v20 v21 v22 v23 => [some (.ref (bs + posM 10 o0)), some (.int x1), some (.int v19), some (.int v20), some (.int v21), some (.int v22), some (.int v23)]) (st1 := fun v19 v20 v21 v22 v23 => []) (ws1 := fun v19 v20 v21 v22 v23 => vwM cy bs V) (fun n24 ih25 v19 v20 v21 v22 v23 => ?_) (fun _ _ _ _ _ => rfl) FU 0 0 0 (-1) 0
          rw [f_X12_heap_L32]
          refine ag_iload dX12_heap_32 rfl ?_
          refine ag_aload_n dX12_heap_34 rfl ?_
          refine gM_X12_objects ho0 fl_X12_225 dX12_heap_35 ?_
          refine ag_icmp_ge (tgt := 102) dX12_heap_38 (by decide) (fun h26 => ?_) (fun h26 => ?_)
          · refine ag_drop [6] (L' := [some (.ref (bs + posM 10 o0)), some (.int x1), some (.int v19), some (.int v20), some (.int v21), some (.int v22), none]) rfl ?_
            exact hk5 v19 v20 v21 v22
          · refine ag_aload_n dX12_heap_41 rfl ?_
            refine gM_X12_isFreed ho0 fl_X12_127 dX12_heap_42 ?_
            refine ag_iload dX12_heap_45 rfl ?_
            refine ag_chk (fun h27 => ?_)
            refine aM_78 (by decide) h27 dX12_heap_47 ?_
            refine ag_jn4 (j := 96) (L1 := fun v28 v29 v30 v31 => [some (.ref (bs + posM 10 o0)), some (.int x1), some (.int v28), some (.int v29), some (.int v30), some (.int v31), some (.int v23)]) (st1 := fun v28 v29 v30 v31 => []) (ws1 := fun v28 v29 v30 v31 => vwM cy bs V) (fun v28 v29 v30 v31 => ?_) (fun k32 hk33 => ?_)
            · refine ag_iincL (L' := fun v34 => [some (.ref (bs + posM 10 o0)), some (.int x1), some (.int v28), some (.int v29), some (.int v30), some (.int v31), some (.int v34)]) dX12_heap_96 (by decide) rfl (by decide) (fun _ => rfl) (fun v34 => ?_)
              refine ag_goto (tgt := 32) dX12_heap_99 (by decide) ?_
              exact ih25 v28 v29 v30 v31 v34
            · refine ag_bif_eq (tgt := 66) dX12_heap_48 (by decide) (fun h35 => ?_) (fun h35 => ?_)
              · refine ag_iload_n dX12_heap_66 rfl ?_
                refine ag_iload_n dX12_heap_67 rfl ?_
                refine ag_bipush (v := 8) dX12_heap_68 (by decide) ?_
                refine ag_isub dX12_heap_70 ?_
                refine ag_jn1 (j := 83) (L1 := fun v36 => [some (.ref (bs + posM 10 o0)), some (.int x1), some (.int v19), some (.int v20), some (.int v21), some (.int v36), some (.int v23)]) (st1 := fun v36 => []) (ws1 := fun v36 => vwM cy bs V) (fun v36 => ?_) (fun k37 hk38 => ?_)
                · refine ag_iincL (L' := fun v39 => [some (.ref (bs + posM 10 o0)), some (.int x1), some (.int v39), some (.int v20), some (.int v21), some (.int v36), some (.int v23)]) dX12_heap_83 (by decide) rfl (by decide) (fun _ => rfl) (fun v39 => ?_)
                  refine ag_iload_n dX12_heap_86 rfl ?_
                  refine ag_aload_n dX12_heap_87 rfl ?_
                  refine gM_X12_objectSize ho0 fl_X12_124 dX12_heap_88 ?_
                  refine ag_iload dX12_heap_91 rfl ?_
                  refine ag_chk (fun h40 => ?_)
                  refine aM_77 (by decide) h40 dX12_heap_93 ?_
                  refine ag_iadd dX12_heap_94 ?_
                  refine ag_ltI (fun v41 => ?_)
                  refine ag_istore_n (L' := [some (.ref (bs + posM 10 o0)), some (.int x1), some (.int v39), some (.int v41), some (.int v21), some (.int v36), some (.int v23)]) dX12_heap_95 (by decide) rfl ?_
                  exact hk33 v39 v41 v21 v36
                · refine ag_icmp_ne (tgt := 83) dX12_heap_71 (by decide) (fun h42 => ?_) (fun h42 => ?_)
                  · exact hk38 v22
                  · refine ag_aload_n dX12_heap_74 rfl ?_
                    refine gM_X12_objectAt ho0 fl_X12_121 dX12_heap_75 ?_
                    refine ag_iload dX12_heap_78 rfl ?_
                    refine ag_chk (fun h43 => ?_)
                    refine aM_76 (by decide) h43 dX12_heap_80 ?_
                    refine ag_ltI (fun v44 => ?_)
                    refine ag_istore (L' := [some (.ref (bs + posM 10 o0)), some (.int x1), some (.int v19), some (.int v20), some (.int v21), some (.int v44), some (.int v23)]) dX12_heap_81 (by decide) rfl ?_
                    exact hk38 v44
              · refine ag_iload dX12_heap_51 rfl ?_
                refine ag_aload_n dX12_heap_53 rfl ?_
                refine gM_X12_objectSize ho0 fl_X12_124 dX12_heap_54 ?_
                refine ag_iload dX12_heap_57 rfl ?_
                refine ag_chk (fun h45 => ?_)
                refine aM_77 (by decide) h45 dX12_heap_59 ?_
                refine ag_iadd dX12_heap_60 ?_
                refine ag_ltI (fun v46 => ?_)
                refine ag_istore (L' := [some (.ref (bs + posM 10 o0)), some (.int x1), some (.int v19), some (.int v20), some (.int v46), some (.int v22), some (.int v23)]) dX12_heap_61 (by decide) rfl ?_
                refine ag_goto (tgt := 96) dX12_heap_63 (by decide) ?_
                exact hk33 v19 v20 v46 v22
      · refine ag_iconst (v := (-1)) dX12_heap_17 (by decide) ?_
        exact ag_irpp dX12_heap_18
set_option maxRecDepth 100000 in
set_option maxHeartbeats 4000000 in
theorem c_X12_count {l : Launch} {D : va_G} {cy : Nat → ClassId} {bs : Nat} {V : HV} (o0 : Nat) (x1 : Int32) (ho0 : o0 < 1) {z : Int32} (hz : f_X12_count o0 x1 V = z) : CM l (aG 57 bs) D (tyL cy) (vwM cy bs) yX12_count cX12_count 2 (some .int) 0 0 tvI [.ref (bs + posM 10 o0), .int x1] V (z, V) := by
  refine cm_of vwM_D (by decide +kernel) (own := RX12) rfl (Nat.le_of_ble_eq_true rfl) (L := [some (.ref (bs + posM 10 o0)), some (.int x1)]) rfl hz (fun Γ => ?_)
  unfold f_X12_count
  refine ag_iload_n dX12_count_0 rfl ?_
  refine ag_if (fun h1 => ?_) (fun h1 => ?_)
  · refine ag_tab (off := 55) (tgt := 56) h1 dX12_count_1 (by decide) (by decide) (by decide) (by decide) ?_
    refine ag_aload_n dX12_count_56 rfl ?_
    refine gM_X12_time ho0 fl_X12_201 dX12_count_57 ?_
    exact ag_irp dX12_count_60
  · refine ag_if (fun h2 => ?_) (fun h2 => ?_)
    · refine ag_tab (off := 60) (tgt := 61) h2 dX12_count_1 (by decide) (by decide) (by decide) (by decide) ?_
      refine ag_aload_n dX12_count_61 rfl ?_
      refine gM_X12_current ho0 fl_X12_204 dX12_count_62 ?_
      exact ag_irp dX12_count_65
    · refine ag_if (fun h3 => ?_) (fun h3 => ?_)
      · refine ag_tab (off := 65) (tgt := 66) h3 dX12_count_1 (by decide) (by decide) (by decide) (by decide) ?_
        refine ag_aload_n dX12_count_66 rfl ?_
        refine gM_X12_faults ho0 fl_X12_207 dX12_count_67 ?_
        exact ag_irp dX12_count_70
      · refine ag_if (fun h4 => ?_) (fun h4 => ?_)
        · refine ag_tab (off := 70) (tgt := 71) h4 dX12_count_1 (by decide) (by decide) (by decide) (by decide) ?_
          refine ag_aload_n dX12_count_71 rfl ?_
          refine gM_X12_calls ho0 fl_X12_210 dX12_count_72 ?_
          exact ag_irp dX12_count_75
        · refine ag_if (fun h5 => ?_) (fun h5 => ?_)
          · refine ag_tab (off := 75) (tgt := 76) h5 dX12_count_1 (by decide) (by decide) (by decide) (by decide) ?_
            refine ag_aload_n dX12_count_76 rfl ?_
            refine gM_X12_services ho0 fl_X12_213 dX12_count_77 ?_
            exact ag_irp dX12_count_80
          · refine ag_if (fun h6 => ?_) (fun h6 => ?_)
            · refine ag_tab (off := 80) (tgt := 81) h6 dX12_count_1 (by decide) (by decide) (by decide) (by decide) ?_
              refine ag_aload_n dX12_count_81 rfl ?_
              refine gM_X12_turns ho0 fl_X12_216 dX12_count_82 ?_
              exact ag_irp dX12_count_85
            · refine ag_if (fun h7 => ?_) (fun h7 => ?_)
              · refine ag_tab (off := 85) (tgt := 86) h7 dX12_count_1 (by decide) (by decide) (by decide) (by decide) ?_
                refine ag_aload_n dX12_count_86 rfl ?_
                refine gM_X12_tapeSize ho0 fl_X12_272 dX12_count_87 ?_
                exact ag_irp dX12_count_90
              · refine ag_if (fun h8 => ?_) (fun h8 => ?_)
                · refine ag_tab (off := 90) (tgt := 91) h8 dX12_count_1 (by decide) (by decide) (by decide) (by decide) ?_
                  refine ag_aload_n dX12_count_91 rfl ?_
                  refine gM_X12_outMany ho0 fl_X12_243 dX12_count_92 ?_
                  exact ag_irp dX12_count_95
                · refine ag_if (fun h9 => ?_) (fun h9 => ?_)
                  · refine ag_tab (off := 95) (tgt := 96) h9 dX12_count_1 (by decide) (by decide) (by decide) (by decide) ?_
                    refine ag_aload_n dX12_count_96 rfl ?_
                    refine gM_X12_waitingMany ho0 fl_X12_237 dX12_count_97 ?_
                    exact ag_irp dX12_count_100
                  · refine ag_if (fun h10 => ?_) (fun h10 => ?_)
                    · refine ag_tab (off := 100) (tgt := 101) h10 dX12_count_1 (by decide) (by decide) (by decide) (by decide) ?_
                      refine ag_aload_n dX12_count_101 rfl ?_
                      refine gM_X12_booted ho0 fl_X12_191 dX12_count_102 ?_
                      refine ag_dv (j := 113) (L1 := fun _ => [some (.ref (bs + posM 10 o0)), some (.int x1)]) (st1 := fun v11 => [.int (b2i v11)]) (ws1 := fun _ => vwM cy bs V) (fun v11 => ?_) (fun k13 hk12 => ?_)
                      · exact ag_irp dX12_count_113
                      · refine ag_bif_eq_v (tgt := 112) dX12_count_105 (by decide) (fun h14 => ?_) (fun h14 => ?_)
                        · refine ag_iconst (v := 0) dX12_count_112 (by decide) ?_
                          exact hk12 false
                        · refine ag_iconst (v := 1) dX12_count_108 (by decide) ?_
                          refine ag_goto (tgt := 113) dX12_count_109 (by decide) ?_
                          exact hk12 true
                    · refine ag_tabD (tgt := 114) dX12_count_1 (by have z0 := lv_neT h1 (k := 0) (a := 0) (by decide); have z1 := lv_neT h2 (k := 1) (a := 1) (by decide); have z2 := lv_neT h3 (k := 2) (a := 2) (by decide); have z3 := lv_neT h4 (k := 3) (a := 3) (by decide); have z4 := lv_neT h5 (k := 4) (a := 4) (by decide); have z5 := lv_neT h6 (k := 5) (a := 5) (by decide); have z6 := lv_neT h7 (k := 6) (a := 6) (by decide); have z7 := lv_neT h8 (k := 7) (a := 7) (by decide); have z8 := lv_neT h9 (k := 8) (a := 8) (by decide); have z9 := lv_neT h10 (k := 9) (a := 9) (by decide); omega) (by decide) ?_
                      refine ag_iconst (v := (-1)) dX12_count_114 (by decide) ?_
                      exact ag_irp dX12_count_115
set_option maxRecDepth 100000 in
set_option maxHeartbeats 4000000 in
theorem c_X12_isMore {l : Launch} {D : va_G} {cy : Nat → ClassId} {bs : Nat} {V : HV} (o0 : Nat) (x1 : Int32) (ho0 : o0 < 1) {z : Bool} (hz : f_X12_isMore o0 x1 V = some z) : CM l (aG 57 bs) D (tyL cy) (vwM cy bs) yX12_isMore cX12_isMore 7 (some .boolean) 1 20 tvZ [.ref (bs + posM 10 o0), .int x1] V (z, V) := by
  refine cm_of vwM_D (by decide +kernel) (own := RX12) rfl (Nat.le_of_ble_eq_true rfl) (L := [some (.ref (bs + posM 10 o0)), some (.int x1), none, none, none, none, none]) rfl hz (fun Γ => ?_)
  unfold f_X12_isMore
  refine ag_aload_n dX12_isMore_0 rfl ?_
  refine gM_X12_type ho0 fl_X12_22 dX12_isMore_1 ?_
  refine ag_iload_n dX12_isMore_4 rfl ?_
  refine ag_chk (fun h1 => ?_)
  refine aM_28 (by decide) h1 dX12_isMore_5 ?_
  refine ag_jn1 (j := 35) (L1 := fun v2 => [some (.ref (bs + posM 10 o0)), some (.int x1), none, none, none, none, none]) (st1 := fun v2 => [.int (b2i v2)]) (ws1 := fun v2 => vwM cy bs V) (fun v2 => ?_) (fun k3 hk4 => ?_)
  · refine ag_istore_n (L' := [some (.ref (bs + posM 10 o0)), some (.int x1), some (.int (b2i v2)), none, none, none, none]) dX12_isMore_35 (by decide) rfl ?_
    refine ag_aload_n dX12_isMore_36 rfl ?_
    refine gM_X12_tag ho0 fl_X12_25 dX12_isMore_37 ?_
    refine ag_iload_n dX12_isMore_40 rfl ?_
    refine ag_chk (fun h5 => ?_)
    refine aM_29 (by decide) h5 dX12_isMore_41 ?_
    refine ag_bif_eq (tgt := 71) dX12_isMore_42 (by decide) (fun h6 => ?_) (fun h6 => ?_)
    · refine ag_iconst (v := 0) dX12_isMore_71 (by decide) ?_
      exact ag_zrpp (x := false) dX12_isMore_72
    · refine ag_iload_n dX12_isMore_45 rfl ?_
      refine ag_bif_eq (tgt := 71) dX12_isMore_46 (by decide) (fun h7 => ?_) (fun h7 => ?_)
      · refine ag_iconst (v := 0) dX12_isMore_71 (by decide) ?_
        exact ag_zrpp (x := false) dX12_isMore_72
      · refine ag_aload_n dX12_isMore_49 rfl ?_
        refine gM_X12_base ho0 fl_X12_13 dX12_isMore_50 ?_
        refine ag_iload_n dX12_isMore_53 rfl ?_
        refine ag_chk (fun h8 => ?_)
        refine aM_25 (by decide) h8 dX12_isMore_54 ?_
        refine ag_isJp (c_X12_plain (V 2500 0 (x1).toNatClampNeg)  rfl) vwM_D cs_X12_260 rfl rfl (Nat.le_of_ble_eq_true rfl) ⟨by decide, by decide⟩ ⟨Nat.zero_le _, Nat.zero_le _⟩ dX12_isMore_55 ?_
        refine ag_ltJ (fun v9 => ?_)
        refine ag_aload_n dX12_isMore_58 rfl ?_
        refine gM_X12_top ho0 fl_X12_16 dX12_isMore_59 ?_
        refine ag_iload_n dX12_isMore_62 rfl ?_
        refine ag_chk (fun h10 => ?_)
        refine aM_26 (by decide) h10 dX12_isMore_63 ?_
        refine ag_isJp (c_X12_plain (V 2600 0 (x1).toNatClampNeg)  rfl) vwM_D cs_X12_260 rfl rfl (Nat.le_of_ble_eq_true rfl) ⟨by decide, by decide⟩ ⟨Nat.zero_le _, Nat.zero_le _⟩ dX12_isMore_64 ?_
        refine ag_ltJ (fun v11 => ?_)
        refine ag_lcmp dX12_isMore_67 ?_
        refine ag_if_lt (tgt := 73) dX12_isMore_68 (by decide) (fun h12 => ?_) (fun h12 => ?_)
        · refine ag_aload_n dX12_isMore_73 rfl ?_
          refine gM_X12_perms ho0 fl_X12_19 dX12_isMore_74 ?_
          refine ag_iload_n dX12_isMore_77 rfl ?_
          refine ag_chk (fun h13 => ?_)
          refine aM_27 (by decide) h13 dX12_isMore_78 ?_
          refine ag_ltI (fun v14 => ?_)
          refine ag_istore_n (L' := [some (.ref (bs + posM 10 o0)), some (.int x1), some (.int (b2i v2)), some (.int v14), none, none, none]) dX12_isMore_79 (by decide) rfl ?_
          refine ag_bipush (v := 27) dX12_isMore_80 (by decide) ?_
          refine ag_istore (L' := [some (.ref (bs + posM 10 o0)), some (.int x1), some (.int (b2i v2)), some (.int v14), some (.int 27), none, none]) dX12_isMore_82 (by decide) rfl ?_
          refine ag_aload_n dX12_isMore_84 rfl ?_
          refine gM_X12_base ho0 fl_X12_13 dX12_isMore_85 ?_
          refine ag_iload_n dX12_isMore_88 rfl ?_
          refine ag_chk (fun h15 => ?_)
          refine aM_25 (by decide) h15 dX12_isMore_89 ?_
          refine ag_ldcw kc_X12_301 dX12_isMore_90 ?_
          refine ag_jn1 (j := 154) (L1 := fun v16 => [some (.ref (bs + posM 10 o0)), some (.int x1), some (.int (b2i v2)), some (.int v14), some (.int 27), none, none]) (st1 := fun v16 => [.int (b2i v16)]) (ws1 := fun v16 => vwM cy bs V) (fun v16 => ?_) (fun k17 hk18 => ?_)
          · refine ag_istore (L' := [some (.ref (bs + posM 10 o0)), some (.int x1), some (.int (b2i v2)), some (.int v14), some (.int 27), some (.int (b2i v16)), none]) dX12_isMore_154 (by decide) rfl ?_
            refine ag_iconst (v := 0) dX12_isMore_156 (by decide) ?_
            refine ag_istore (L' := [some (.ref (bs + posM 10 o0)), some (.int x1), some (.int (b2i v2)), some (.int v14), some (.int 27), some (.int (b2i v16)), some (.int 0)]) dX12_isMore_157 (by decide) rfl ?_
            refine ag_jn1 (j := 281) (L1 := fun v21 => [some (.ref (bs + posM 10 o0)), some (.int x1), some (.int (b2i v2)), some (.int v14), some (.int 27), some (.int (b2i v21)), none]) (st1 := fun v21 => []) (ws1 := fun v21 => vwM cy bs V) (fun v21 => ?_) (fun k19 hk20 => ?_)
            · refine ag_iconst (v := 0) dX12_isMore_281 (by decide) ?_
              refine ag_istore (L' := [some (.ref (bs + posM 10 o0)), some (.int x1), some (.int (b2i v2)), some (.int v14), some (.int 27), some (.int (b2i v21)), some (.int 0)]) dX12_isMore_282 (by decide) rfl ?_
              refine ag_jn1 (j := 356) (L1 := fun v24 => [some (.ref (bs + posM 10 o0)), some (.int x1), some (.int (b2i v2)), some (.int v14), some (.int 27), some (.int (b2i v24)), none]) (st1 := fun v24 => []) (ws1 := fun v24 => vwM cy bs V) (fun v24 => ?_) (fun k22 hk23 => ?_)
              · refine ag_iconst (v := 0) dX12_isMore_356 (by decide) ?_
                refine ag_istore (L' := [some (.ref (bs + posM 10 o0)), some (.int x1), some (.int (b2i v2)), some (.int v14), some (.int 27), some (.int (b2i v24)), some (.int 0)]) dX12_isMore_357 (by decide) rfl ?_
                refine ag_jn1 (j := 438) (L1 := fun v27 => [some (.ref (bs + posM 10 o0)), some (.int x1), some (.int (b2i v2)), some (.int v14), some (.int 27), some (.int (b2i v27)), none]) (st1 := fun v27 => []) (ws1 := fun v27 => vwM cy bs V) (fun v27 => ?_) (fun k25 hk26 => ?_)
                · refine ag_iload dX12_isMore_438 rfl ?_
                  refine ag_dv (j := 448) (L1 := fun _ => [some (.ref (bs + posM 10 o0)), some (.int x1), some (.int (b2i v2)), some (.int v14), some (.int 27), some (.int (b2i v27)), none]) (st1 := fun v28 => [.int (b2i v28)]) (ws1 := fun _ => vwM cy bs V) (fun v28 => ?_) (fun k30 hk29 => ?_)
                  · exact ag_zrpp (x := v28) dX12_isMore_448
                  · refine ag_bif_ne_v (tgt := 447) dX12_isMore_440 (by decide) (fun h31 => ?_) (fun h31 => ?_)
                    · refine ag_iconst (v := 0) dX12_isMore_447 (by decide) ?_
                      exact hk29 false
                    · refine ag_iconst (v := 1) dX12_isMore_443 (by decide) ?_
                      refine ag_goto (tgt := 448) dX12_isMore_444 (by decide) ?_
                      exact hk29 true
                · refine ag_loop2 (F := f_X12_isMore_L359 o0 x1 V v14 k25) (L1 := fun v32 v33 => [some (.ref (bs + posM 10 o0)), some (.int x1), some (.int (b2i v2)), some (.int v14), some (.int 27), some (.int (b2i v32)), some (.int v33)]) (st1 := fun v32 v33 => []) (ws1 := fun v32 v33 => vwM cy bs V) (fun n34 ih35 v32 v33 => ?_) (fun _ _ => rfl) FU v24 0
                  rw [f_X12_isMore_L359]
                  refine ag_iload dX12_isMore_359 rfl ?_
                  refine ag_aload_n dX12_isMore_361 rfl ?_
                  refine gM_X12_objects ho0 fl_X12_225 dX12_isMore_362 ?_
                  refine ag_icmp_ge (tgt := 438) dX12_isMore_365 (by decide) (fun h36 => ?_) (fun h36 => ?_)
                  · refine ag_drop [6] (L' := [some (.ref (bs + posM 10 o0)), some (.int x1), some (.int (b2i v2)), some (.int v14), some (.int 27), some (.int (b2i v32)), none]) rfl ?_
                    exact hk26 v32
                  · refine ag_iload dX12_isMore_368 rfl ?_
                    refine ag_jn1 (j := 430) (L1 := fun v37 => [some (.ref (bs + posM 10 o0)), some (.int x1), some (.int (b2i v2)), some (.int v14), some (.int 27), some (.int (b2i v32)), some (.int v33)]) (st1 := fun v37 => [.int (b2i v37)]) (ws1 := fun v37 => vwM cy bs V) (fun v37 => ?_) (fun k38 hk39 => ?_)
                    · refine ag_istore (L' := [some (.ref (bs + posM 10 o0)), some (.int x1), some (.int (b2i v2)), some (.int v14), some (.int 27), some (.int (b2i v37)), some (.int v33)]) dX12_isMore_430 (by decide) rfl ?_
                      refine ag_iincL (L' := fun v40 => [some (.ref (bs + posM 10 o0)), some (.int x1), some (.int (b2i v2)), some (.int v14), some (.int 27), some (.int (b2i v37)), some (.int v40)]) dX12_isMore_432 (by decide) rfl (by decide) (fun _ => rfl) (fun v40 => ?_)
                      refine ag_goto (tgt := 359) dX12_isMore_435 (by decide) ?_
                      exact ih35 v37 v40
                    · refine ag_jn0 (j := 425) (L1 := [some (.ref (bs + posM 10 o0)), some (.int x1), some (.int (b2i v2)), some (.int v14), some (.int 27), some (.int (b2i v32)), some (.int v33)]) (st1 := []) (ws1 := vwM cy bs V) (?_) (fun k41 hk42 => ?_)
                      · refine ag_iconst (v := 1) dX12_isMore_425 (by decide) ?_
                        refine ag_goto (tgt := 430) dX12_isMore_426 (by decide) ?_
                        exact hk39 true
                      · refine ag_bif_ne (tgt := 425) dX12_isMore_370 (by decide) (fun h43 => ?_) (fun h43 => ?_)
                        · exact hk42
                        · refine ag_aload_n dX12_isMore_373 rfl ?_
                          refine gM_X12_base ho0 fl_X12_13 dX12_isMore_374 ?_
                          refine ag_iload_n dX12_isMore_377 rfl ?_
                          refine ag_chk (fun h44 => ?_)
                          refine aM_25 (by decide) h44 dX12_isMore_378 ?_
                          refine ag_aload_n dX12_isMore_379 rfl ?_
                          refine gM_X12_objectAt ho0 fl_X12_121 dX12_isMore_380 ?_
                          refine ag_iload dX12_isMore_383 rfl ?_
                          refine ag_chk (fun h45 => ?_)
                          refine aM_76 (by decide) h45 dX12_isMore_385 ?_
                          refine ag_jn0 (j := 429) (L1 := [some (.ref (bs + posM 10 o0)), some (.int x1), some (.int (b2i v2)), some (.int v14), some (.int 27), some (.int (b2i v32)), some (.int v33)]) (st1 := []) (ws1 := vwM cy bs V) (?_) (fun k46 hk47 => ?_)
                          · refine ag_iconst (v := 0) dX12_isMore_429 (by decide) ?_
                            exact hk39 false
                          · refine ag_icmp_lt (tgt := 429) dX12_isMore_386 (by decide) (fun h48 => ?_) (fun h48 => ?_)
                            · exact hk47
                            · refine ag_aload_n dX12_isMore_389 rfl ?_
                              refine gM_X12_top ho0 fl_X12_16 dX12_isMore_390 ?_
                              refine ag_iload_n dX12_isMore_393 rfl ?_
                              refine ag_chk (fun h49 => ?_)
                              refine aM_26 (by decide) h49 dX12_isMore_394 ?_
                              refine ag_aload_n dX12_isMore_395 rfl ?_
                              refine gM_X12_objectAt ho0 fl_X12_121 dX12_isMore_396 ?_
                              refine ag_iload dX12_isMore_399 rfl ?_
                              refine ag_chk (fun h50 => ?_)
                              refine aM_76 (by decide) h50 dX12_isMore_401 ?_
                              refine ag_aload_n dX12_isMore_402 rfl ?_
                              refine gM_X12_objectSize ho0 fl_X12_124 dX12_isMore_403 ?_
                              refine ag_iload dX12_isMore_406 rfl ?_
                              refine ag_chk (fun h51 => ?_)
                              refine aM_77 (by decide) h51 dX12_isMore_408 ?_
                              refine ag_iadd dX12_isMore_409 ?_
                              refine ag_icmp_gt (tgt := 429) dX12_isMore_410 (by decide) (fun h52 => ?_) (fun h52 => ?_)
                              · exact hk47
                              · refine ag_iload_n dX12_isMore_413 rfl ?_
                                refine ag_iload dX12_isMore_414 rfl ?_
                                refine ag_bipush (v := 64) dX12_isMore_416 (by decide) ?_
                                refine ag_ior dX12_isMore_418 ?_
                                refine ag_iconst (v := (-1)) dX12_isMore_419 (by decide) ?_
                                refine ag_ixor dX12_isMore_420 ?_
                                refine ag_iand dX12_isMore_421 ?_
                                refine ag_if_ne (tgt := 429) dX12_isMore_422 (by decide) (fun h53 => ?_) (fun h53 => ?_)
                                · exact hk47
                                · exact hk42
              · refine ag_loop2 (F := f_X12_isMore_L284 o0 x1 V v14 k22) (L1 := fun v54 v55 => [some (.ref (bs + posM 10 o0)), some (.int x1), some (.int (b2i v2)), some (.int v14), some (.int 27), some (.int (b2i v54)), some (.int v55)]) (st1 := fun v54 v55 => []) (ws1 := fun v54 v55 => vwM cy bs V) (fun n56 ih57 v54 v55 => ?_) (fun _ _ => rfl) FU v21 0
                rw [f_X12_isMore_L284]
                refine ag_iload dX12_isMore_284 rfl ?_
                refine ag_aload_n dX12_isMore_286 rfl ?_
                refine gM_X12_threads ho0 fl_X12_198 dX12_isMore_287 ?_
                refine ag_icmp_ge (tgt := 356) dX12_isMore_290 (by decide) (fun h58 => ?_) (fun h58 => ?_)
                · refine ag_drop [6] (L' := [some (.ref (bs + posM 10 o0)), some (.int x1), some (.int (b2i v2)), some (.int v14), some (.int 27), some (.int (b2i v54)), none]) rfl ?_
                  exact hk23 v54
                · refine ag_iload dX12_isMore_293 rfl ?_
                  refine ag_jn1 (j := 348) (L1 := fun v59 => [some (.ref (bs + posM 10 o0)), some (.int x1), some (.int (b2i v2)), some (.int v14), some (.int 27), some (.int (b2i v54)), some (.int v55)]) (st1 := fun v59 => [.int (b2i v59)]) (ws1 := fun v59 => vwM cy bs V) (fun v59 => ?_) (fun k60 hk61 => ?_)
                  · refine ag_istore (L' := [some (.ref (bs + posM 10 o0)), some (.int x1), some (.int (b2i v2)), some (.int v14), some (.int 27), some (.int (b2i v59)), some (.int v55)]) dX12_isMore_348 (by decide) rfl ?_
                    refine ag_iincL (L' := fun v62 => [some (.ref (bs + posM 10 o0)), some (.int x1), some (.int (b2i v2)), some (.int v14), some (.int 27), some (.int (b2i v59)), some (.int v62)]) dX12_isMore_350 (by decide) rfl (by decide) (fun _ => rfl) (fun v62 => ?_)
                    refine ag_goto (tgt := 284) dX12_isMore_353 (by decide) ?_
                    exact ih57 v59 v62
                  · refine ag_jn0 (j := 343) (L1 := [some (.ref (bs + posM 10 o0)), some (.int x1), some (.int (b2i v2)), some (.int v14), some (.int 27), some (.int (b2i v54)), some (.int v55)]) (st1 := []) (ws1 := vwM cy bs V) (?_) (fun k63 hk64 => ?_)
                    · refine ag_iconst (v := 1) dX12_isMore_343 (by decide) ?_
                      refine ag_goto (tgt := 348) dX12_isMore_344 (by decide) ?_
                      exact hk61 true
                    · refine ag_bif_ne (tgt := 343) dX12_isMore_295 (by decide) (fun h65 => ?_) (fun h65 => ?_)
                      · exact hk64
                      · refine ag_aload_n dX12_isMore_298 rfl ?_
                        refine gM_X12_base ho0 fl_X12_13 dX12_isMore_299 ?_
                        refine ag_iload_n dX12_isMore_302 rfl ?_
                        refine ag_chk (fun h66 => ?_)
                        refine aM_25 (by decide) h66 dX12_isMore_303 ?_
                        refine ag_aload_n dX12_isMore_304 rfl ?_
                        refine gM_X12_stackAt ho0 fl_X12_88 dX12_isMore_305 ?_
                        refine ag_iload dX12_isMore_308 rfl ?_
                        refine ag_chk (fun h67 => ?_)
                        refine aM_56 (by decide) h67 dX12_isMore_310 ?_
                        refine ag_jn0 (j := 347) (L1 := [some (.ref (bs + posM 10 o0)), some (.int x1), some (.int (b2i v2)), some (.int v14), some (.int 27), some (.int (b2i v54)), some (.int v55)]) (st1 := []) (ws1 := vwM cy bs V) (?_) (fun k68 hk69 => ?_)
                        · refine ag_iconst (v := 0) dX12_isMore_347 (by decide) ?_
                          exact hk61 false
                        · refine ag_icmp_lt (tgt := 347) dX12_isMore_311 (by decide) (fun h70 => ?_) (fun h70 => ?_)
                          · exact hk69
                          · refine ag_aload_n dX12_isMore_314 rfl ?_
                            refine gM_X12_top ho0 fl_X12_16 dX12_isMore_315 ?_
                            refine ag_iload_n dX12_isMore_318 rfl ?_
                            refine ag_chk (fun h71 => ?_)
                            refine aM_26 (by decide) h71 dX12_isMore_319 ?_
                            refine ag_aload_n dX12_isMore_320 rfl ?_
                            refine gM_X12_stackEnd ho0 fl_X12_91 dX12_isMore_321 ?_
                            refine ag_iload dX12_isMore_324 rfl ?_
                            refine ag_chk (fun h72 => ?_)
                            refine aM_57 (by decide) h72 dX12_isMore_326 ?_
                            refine ag_icmp_gt (tgt := 347) dX12_isMore_327 (by decide) (fun h73 => ?_) (fun h73 => ?_)
                            · exact hk69
                            · refine ag_iload_n dX12_isMore_330 rfl ?_
                              refine ag_iload dX12_isMore_331 rfl ?_
                              refine ag_sipush (v := 128) dX12_isMore_333 (by decide) ?_
                              refine ag_ior dX12_isMore_336 ?_
                              refine ag_iconst (v := (-1)) dX12_isMore_337 (by decide) ?_
                              refine ag_ixor dX12_isMore_338 ?_
                              refine ag_iand dX12_isMore_339 ?_
                              refine ag_if_ne (tgt := 347) dX12_isMore_340 (by decide) (fun h74 => ?_) (fun h74 => ?_)
                              · exact hk69
                              · exact hk64
            · refine ag_loop2 (F := f_X12_isMore_L159 o0 x1 V v14 k19) (L1 := fun v75 v76 => [some (.ref (bs + posM 10 o0)), some (.int x1), some (.int (b2i v2)), some (.int v14), some (.int 27), some (.int (b2i v75)), some (.int v76)]) (st1 := fun v75 v76 => []) (ws1 := fun v75 v76 => vwM cy bs V) (fun n77 ih78 v75 v76 => ?_) (fun _ _ => rfl) FU v16 0
              rw [f_X12_isMore_L159]
              refine ag_iload dX12_isMore_159 rfl ?_
              refine ag_aload_n dX12_isMore_161 rfl ?_
              refine gM_X12_compartments ho0 fl_X12_195 dX12_isMore_162 ?_
              refine ag_icmp_ge (tgt := 281) dX12_isMore_165 (by decide) (fun h79 => ?_) (fun h79 => ?_)
              · refine ag_drop [6] (L' := [some (.ref (bs + posM 10 o0)), some (.int x1), some (.int (b2i v2)), some (.int v14), some (.int 27), some (.int (b2i v75)), none]) rfl ?_
                exact hk20 v75
              · refine ag_iload dX12_isMore_168 rfl ?_
                refine ag_jn1 (j := 217) (L1 := fun v80 => [some (.ref (bs + posM 10 o0)), some (.int x1), some (.int (b2i v2)), some (.int v14), some (.int 27), some (.int (b2i v75)), some (.int v76)]) (st1 := fun v80 => [.int (b2i v80)]) (ws1 := fun v80 => vwM cy bs V) (fun v80 => ?_) (fun k81 hk82 => ?_)
                · refine ag_istore (L' := [some (.ref (bs + posM 10 o0)), some (.int x1), some (.int (b2i v2)), some (.int v14), some (.int 27), some (.int (b2i v80)), some (.int v76)]) dX12_isMore_217 (by decide) rfl ?_
                  refine ag_iload dX12_isMore_219 rfl ?_
                  refine ag_jn1 (j := 273) (L1 := fun v83 => [some (.ref (bs + posM 10 o0)), some (.int x1), some (.int (b2i v2)), some (.int v14), some (.int 27), some (.int (b2i v80)), some (.int v76)]) (st1 := fun v83 => [.int (b2i v83)]) (ws1 := fun v83 => vwM cy bs V) (fun v83 => ?_) (fun k84 hk85 => ?_)
                  · refine ag_istore (L' := [some (.ref (bs + posM 10 o0)), some (.int x1), some (.int (b2i v2)), some (.int v14), some (.int 27), some (.int (b2i v83)), some (.int v76)]) dX12_isMore_273 (by decide) rfl ?_
                    refine ag_iincL (L' := fun v86 => [some (.ref (bs + posM 10 o0)), some (.int x1), some (.int (b2i v2)), some (.int v14), some (.int 27), some (.int (b2i v83)), some (.int v86)]) dX12_isMore_275 (by decide) rfl (by decide) (fun _ => rfl) (fun v86 => ?_)
                    refine ag_goto (tgt := 159) dX12_isMore_278 (by decide) ?_
                    exact ih78 v83 v86
                  · refine ag_jn0 (j := 268) (L1 := [some (.ref (bs + posM 10 o0)), some (.int x1), some (.int (b2i v2)), some (.int v14), some (.int 27), some (.int (b2i v80)), some (.int v76)]) (st1 := []) (ws1 := vwM cy bs V) (?_) (fun k87 hk88 => ?_)
                    · refine ag_iconst (v := 1) dX12_isMore_268 (by decide) ?_
                      refine ag_goto (tgt := 273) dX12_isMore_269 (by decide) ?_
                      exact hk85 true
                    · refine ag_bif_ne (tgt := 268) dX12_isMore_221 (by decide) (fun h89 => ?_) (fun h89 => ?_)
                      · exact hk88
                      · refine ag_aload_n dX12_isMore_224 rfl ?_
                        refine gM_X12_base ho0 fl_X12_13 dX12_isMore_225 ?_
                        refine ag_iload_n dX12_isMore_228 rfl ?_
                        refine ag_chk (fun h90 => ?_)
                        refine aM_25 (by decide) h90 dX12_isMore_229 ?_
                        refine ag_aload_n dX12_isMore_230 rfl ?_
                        refine gM_X12_globalsAt ho0 fl_X12_46 dX12_isMore_231 ?_
                        refine ag_iload dX12_isMore_234 rfl ?_
                        refine ag_chk (fun h91 => ?_)
                        refine aM_42 (by decide) h91 dX12_isMore_236 ?_
                        refine ag_jn0 (j := 272) (L1 := [some (.ref (bs + posM 10 o0)), some (.int x1), some (.int (b2i v2)), some (.int v14), some (.int 27), some (.int (b2i v80)), some (.int v76)]) (st1 := []) (ws1 := vwM cy bs V) (?_) (fun k92 hk93 => ?_)
                        · refine ag_iconst (v := 0) dX12_isMore_272 (by decide) ?_
                          exact hk85 false
                        · refine ag_icmp_lt (tgt := 272) dX12_isMore_237 (by decide) (fun h94 => ?_) (fun h94 => ?_)
                          · exact hk93
                          · refine ag_aload_n dX12_isMore_240 rfl ?_
                            refine gM_X12_top ho0 fl_X12_16 dX12_isMore_241 ?_
                            refine ag_iload_n dX12_isMore_244 rfl ?_
                            refine ag_chk (fun h95 => ?_)
                            refine aM_26 (by decide) h95 dX12_isMore_245 ?_
                            refine ag_aload_n dX12_isMore_246 rfl ?_
                            refine gM_X12_endAt ho0 fl_X12_49 dX12_isMore_247 ?_
                            refine ag_iload dX12_isMore_250 rfl ?_
                            refine ag_chk (fun h96 => ?_)
                            refine aM_43 (by decide) h96 dX12_isMore_252 ?_
                            refine ag_icmp_gt (tgt := 272) dX12_isMore_253 (by decide) (fun h97 => ?_) (fun h97 => ?_)
                            · exact hk93
                            · refine ag_iload_n dX12_isMore_256 rfl ?_
                              refine ag_iload dX12_isMore_257 rfl ?_
                              refine ag_bipush (v := 64) dX12_isMore_259 (by decide) ?_
                              refine ag_ior dX12_isMore_261 ?_
                              refine ag_iconst (v := (-1)) dX12_isMore_262 (by decide) ?_
                              refine ag_ixor dX12_isMore_263 ?_
                              refine ag_iand dX12_isMore_264 ?_
                              refine ag_if_ne (tgt := 272) dX12_isMore_265 (by decide) (fun h98 => ?_) (fun h98 => ?_)
                              · exact hk93
                              · exact hk88
                · refine ag_jn0 (j := 212) (L1 := [some (.ref (bs + posM 10 o0)), some (.int x1), some (.int (b2i v2)), some (.int v14), some (.int 27), some (.int (b2i v75)), some (.int v76)]) (st1 := []) (ws1 := vwM cy bs V) (?_) (fun k99 hk100 => ?_)
                  · refine ag_iconst (v := 1) dX12_isMore_212 (by decide) ?_
                    refine ag_goto (tgt := 217) dX12_isMore_213 (by decide) ?_
                    exact hk82 true
                  · refine ag_bif_ne (tgt := 212) dX12_isMore_170 (by decide) (fun h101 => ?_) (fun h101 => ?_)
                    · exact hk100
                    · refine ag_aload_n dX12_isMore_173 rfl ?_
                      refine gM_X12_base ho0 fl_X12_13 dX12_isMore_174 ?_
                      refine ag_iload_n dX12_isMore_177 rfl ?_
                      refine ag_chk (fun h102 => ?_)
                      refine aM_25 (by decide) h102 dX12_isMore_178 ?_
                      refine ag_aload_n dX12_isMore_179 rfl ?_
                      refine gM_X12_codeAt ho0 fl_X12_40 dX12_isMore_180 ?_
                      refine ag_iload dX12_isMore_183 rfl ?_
                      refine ag_chk (fun h103 => ?_)
                      refine aM_40 (by decide) h103 dX12_isMore_185 ?_
                      refine ag_jn0 (j := 216) (L1 := [some (.ref (bs + posM 10 o0)), some (.int x1), some (.int (b2i v2)), some (.int v14), some (.int 27), some (.int (b2i v75)), some (.int v76)]) (st1 := []) (ws1 := vwM cy bs V) (?_) (fun k104 hk105 => ?_)
                      · refine ag_iconst (v := 0) dX12_isMore_216 (by decide) ?_
                        exact hk82 false
                      · refine ag_icmp_lt (tgt := 216) dX12_isMore_186 (by decide) (fun h106 => ?_) (fun h106 => ?_)
                        · exact hk105
                        · refine ag_aload_n dX12_isMore_189 rfl ?_
                          refine gM_X12_top ho0 fl_X12_16 dX12_isMore_190 ?_
                          refine ag_iload_n dX12_isMore_193 rfl ?_
                          refine ag_chk (fun h107 => ?_)
                          refine aM_26 (by decide) h107 dX12_isMore_194 ?_
                          refine ag_aload_n dX12_isMore_195 rfl ?_
                          refine gM_X12_globalsAt ho0 fl_X12_46 dX12_isMore_196 ?_
                          refine ag_iload dX12_isMore_199 rfl ?_
                          refine ag_chk (fun h108 => ?_)
                          refine aM_42 (by decide) h108 dX12_isMore_201 ?_
                          refine ag_icmp_gt (tgt := 216) dX12_isMore_202 (by decide) (fun h109 => ?_) (fun h109 => ?_)
                          · exact hk105
                          · refine ag_iload_n dX12_isMore_205 rfl ?_
                            refine ag_bipush (v := (-78)) dX12_isMore_206 (by decide) ?_
                            refine ag_iand dX12_isMore_208 ?_
                            refine ag_if_ne (tgt := 216) dX12_isMore_209 (by decide) (fun h110 => ?_) (fun h110 => ?_)
                            · exact hk105
                            · exact hk100
          · refine ag_jn0 (j := 149) (L1 := [some (.ref (bs + posM 10 o0)), some (.int x1), some (.int (b2i v2)), some (.int v14), some (.int 27), none, none]) (st1 := []) (ws1 := vwM cy bs V) (?_) (fun k111 hk112 => ?_)
            · refine ag_iconst (v := 1) dX12_isMore_149 (by decide) ?_
              refine ag_goto (tgt := 154) dX12_isMore_150 (by decide) ?_
              exact hk18 true
            · refine ag_jn0 (j := 119) (L1 := [some (.ref (bs + posM 10 o0)), some (.int x1), some (.int (b2i v2)), some (.int v14), some (.int 27), none, none]) (st1 := []) (ws1 := vwM cy bs V) (?_) (fun k113 hk114 => ?_)
              · refine ag_aload_n dX12_isMore_119 rfl ?_
                refine gM_X12_base ho0 fl_X12_13 dX12_isMore_120 ?_
                refine ag_iload_n dX12_isMore_123 rfl ?_
                refine ag_chk (fun h115 => ?_)
                refine aM_25 (by decide) h115 dX12_isMore_124 ?_
                refine ag_bipush (v := 8) dX12_isMore_125 (by decide) ?_
                refine ag_jn0 (j := 153) (L1 := [some (.ref (bs + posM 10 o0)), some (.int x1), some (.int (b2i v2)), some (.int v14), some (.int 27), none, none]) (st1 := []) (ws1 := vwM cy bs V) (?_) (fun k116 hk117 => ?_)
                · refine ag_iconst (v := 0) dX12_isMore_153 (by decide) ?_
                  exact hk18 false
                · refine ag_icmp_lt (tgt := 153) dX12_isMore_127 (by decide) (fun h118 => ?_) (fun h118 => ?_)
                  · exact hk117
                  · refine ag_aload_n dX12_isMore_130 rfl ?_
                    refine gM_X12_top ho0 fl_X12_16 dX12_isMore_131 ?_
                    refine ag_iload_n dX12_isMore_134 rfl ?_
                    refine ag_chk (fun h119 => ?_)
                    refine aM_26 (by decide) h119 dX12_isMore_135 ?_
                    refine ag_sipush (v := 264) dX12_isMore_136 (by decide) ?_
                    refine ag_icmp_gt (tgt := 153) dX12_isMore_139 (by decide) (fun h120 => ?_) (fun h120 => ?_)
                    · exact hk117
                    · refine ag_iload_n dX12_isMore_142 rfl ?_
                      refine ag_bipush (v := (-97)) dX12_isMore_143 (by decide) ?_
                      refine ag_iand dX12_isMore_145 ?_
                      refine ag_if_ne (tgt := 153) dX12_isMore_146 (by decide) (fun h121 => ?_) (fun h121 => ?_)
                      · exact hk117
                      · exact hk112
              · refine ag_icmp_lt (tgt := 119) dX12_isMore_93 (by decide) (fun h122 => ?_) (fun h122 => ?_)
                · exact hk114
                · refine ag_aload_n dX12_isMore_96 rfl ?_
                  refine gM_X12_top ho0 fl_X12_16 dX12_isMore_97 ?_
                  refine ag_iload_n dX12_isMore_100 rfl ?_
                  refine ag_chk (fun h123 => ?_)
                  refine aM_26 (by decide) h123 dX12_isMore_101 ?_
                  refine ag_isJp (c_X12_plain (V 2600 0 (x1).toNatClampNeg)  rfl) vwM_D cs_X12_260 rfl rfl (Nat.le_of_ble_eq_true rfl) ⟨by decide, by decide⟩ ⟨Nat.zero_le _, Nat.zero_le _⟩ dX12_isMore_102 ?_
                  refine ag_ltJ (fun v124 => ?_)
                  refine ag_ldc2 kc_X12_523 dX12_isMore_105 ?_
                  refine ag_lcmp dX12_isMore_108 ?_
                  refine ag_if_gt (tgt := 119) dX12_isMore_109 (by decide) (fun h125 => ?_) (fun h125 => ?_)
                  · exact hk114
                  · refine ag_iload_n dX12_isMore_112 rfl ?_
                    refine ag_bipush (v := (-68)) dX12_isMore_113 (by decide) ?_
                    refine ag_iand dX12_isMore_115 ?_
                    refine ag_if_eq (tgt := 149) dX12_isMore_116 (by decide) (fun h126 => ?_) (fun h126 => ?_)
                    · exact hk112
                    · exact hk114
        · refine ag_iconst (v := 0) dX12_isMore_71 (by decide) ?_
          exact ag_zrpp (x := false) dX12_isMore_72
  · refine ag_jn0 (j := 30) (L1 := [some (.ref (bs + posM 10 o0)), some (.int x1), none, none, none, none, none]) (st1 := []) (ws1 := vwM cy bs V) (?_) (fun k127 hk128 => ?_)
    · refine ag_iconst (v := 1) dX12_isMore_30 (by decide) ?_
      refine ag_goto (tgt := 35) dX12_isMore_31 (by decide) ?_
      exact hk4 true
    · refine ag_if_eq (tgt := 30) dX12_isMore_6 (by decide) (fun h129 => ?_) (fun h129 => ?_)
      · exact hk128
      · refine ag_aload_n dX12_isMore_9 rfl ?_
        refine gM_X12_type ho0 fl_X12_22 dX12_isMore_10 ?_
        refine ag_iload_n dX12_isMore_13 rfl ?_
        refine ag_chk (fun h130 => ?_)
        refine aM_28 (by decide) h130 dX12_isMore_14 ?_
        refine ag_iconst (v := 4) dX12_isMore_15 (by decide) ?_
        refine ag_icmp_lt (tgt := 30) dX12_isMore_16 (by decide) (fun h131 => ?_) (fun h131 => ?_)
        · exact hk128
        · refine ag_aload_n dX12_isMore_19 rfl ?_
          refine gM_X12_type ho0 fl_X12_22 dX12_isMore_20 ?_
          refine ag_iload_n dX12_isMore_23 rfl ?_
          refine ag_chk (fun h132 => ?_)
          refine aM_28 (by decide) h132 dX12_isMore_24 ?_
          refine ag_bipush (v := 7) dX12_isMore_25 (by decide) ?_
          refine ag_icmp_le (tgt := 34) dX12_isMore_27 (by decide) (fun h133 => ?_) (fun h133 => ?_)
          · refine ag_iconst (v := 0) dX12_isMore_34 (by decide) ?_
            exact hk4 false
          · exact hk128
