set_option maxRecDepth 100000 in
set_option maxHeartbeats 4000000 in
theorem c_X12_sums {l : Launch} {D : va_G} {cy : Nat → ClassId} {bs : Nat} {V : HV} (x0 : Int32) (x1 : Int32) (x2 : Int32) (x3 : Bool) {z : Int32} (hz : f_X12_sums x0 x1 x2 x3 = z) : CM l (aG 57 bs) D (tyL cy) (vwM cy bs) yX12_sums cX12_sums 4 (some .int) 1 20 tvI [.int x0, .int x1, .int x2, .int (b2i x3)] V (z, V) := by
  refine cm_of vwM_D (by decide +kernel) (own := RX12) rfl (Nat.le_of_ble_eq_true rfl) (L := [some (.int x0), some (.int x1), some (.int x2), some (.int (b2i x3))]) rfl hz (fun Γ => ?_)
  unfold f_X12_sums
  refine ag_iload_n dX12_sums_0 rfl ?_
  refine ag_if (fun h1 => ?_) (fun h1 => ?_)
  · refine ag_tab (off := 43) (tgt := 44) h1 dX12_sums_1 (by decide) (by decide) (by decide) (by decide) ?_
    refine ag_iload_n dX12_sums_44 rfl ?_
    refine ag_iload_n dX12_sums_45 rfl ?_
    refine ag_iadd dX12_sums_46 ?_
    exact ag_irp dX12_sums_47
  · refine ag_if (fun h2 => ?_) (fun h2 => ?_)
    · refine ag_tab (off := 47) (tgt := 48) h2 dX12_sums_1 (by decide) (by decide) (by decide) (by decide) ?_
      refine ag_iload_n dX12_sums_48 rfl ?_
      refine ag_iload_n dX12_sums_49 rfl ?_
      refine ag_bipush (v := 31) dX12_sums_50 (by decide) ?_
      refine ag_iand dX12_sums_52 ?_
      refine ag_ishl dX12_sums_53 ?_
      exact ag_irp dX12_sums_54
    · refine ag_if (fun h3 => ?_) (fun h3 => ?_)
      · refine ag_tab (off := 54) (tgt := 55) h3 dX12_sums_1 (by decide) (by decide) (by decide) (by decide) ?_
        refine ag_iload_n dX12_sums_55 rfl ?_
        refine ag_iload_n dX12_sums_56 rfl ?_
        refine ag_dv (j := 65) (L1 := fun _ => [some (.int x0), some (.int x1), some (.int x2), some (.int (b2i x3))]) (st1 := fun v4 => [.int (b2i v4)]) (ws1 := fun _ => vwM cy bs V) (fun v4 => ?_) (fun k6 hk5 => ?_)
        · exact ag_irp dX12_sums_65
        · refine ag_icmp_ge_v (tgt := 64) dX12_sums_57 (by decide) (fun h7 => ?_) (fun h7 => ?_)
          · refine ag_iconst (v := 0) dX12_sums_64 (by decide) ?_
            exact hk5 false
          · refine ag_iconst (v := 1) dX12_sums_60 (by decide) ?_
            refine ag_goto (tgt := 65) dX12_sums_61 (by decide) ?_
            exact hk5 true
      · refine ag_if (fun h8 => ?_) (fun h8 => ?_)
        · refine ag_tab (off := 65) (tgt := 66) h8 dX12_sums_1 (by decide) (by decide) (by decide) (by decide) ?_
          refine ag_iload_n dX12_sums_66 rfl ?_
          refine ag_isJp (c_X12_plain x1  rfl) vwM_D cs_X12_260 rfl rfl (Nat.le_of_ble_eq_true rfl) ⟨by decide, by decide⟩ ⟨Nat.zero_le _, Nat.zero_le _⟩ dX12_sums_67 ?_
          refine ag_ltJ (fun v9 => ?_)
          refine ag_iload_n dX12_sums_70 rfl ?_
          refine ag_isJp (c_X12_plain x2  rfl) vwM_D cs_X12_260 rfl rfl (Nat.le_of_ble_eq_true rfl) ⟨by decide, by decide⟩ ⟨Nat.zero_le _, Nat.zero_le _⟩ dX12_sums_71 ?_
          refine ag_ltJ (fun v10 => ?_)
          refine ag_lcmp dX12_sums_74 ?_
          refine ag_dv (j := 83) (L1 := fun _ => [some (.int x0), some (.int x1), some (.int x2), some (.int (b2i x3))]) (st1 := fun v11 => [.int (b2i v11)]) (ws1 := fun _ => vwM cy bs V) (fun v11 => ?_) (fun k13 hk12 => ?_)
          · exact ag_irp dX12_sums_83
          · refine ag_if_ge_v (tgt := 82) dX12_sums_75 (by decide) (fun h14 => ?_) (fun h14 => ?_)
            · refine ag_iconst (v := 0) dX12_sums_82 (by decide) ?_
              exact hk12 false
            · refine ag_iconst (v := 1) dX12_sums_78 (by decide) ?_
              refine ag_goto (tgt := 83) dX12_sums_79 (by decide) ?_
              exact hk12 true
        · refine ag_if (fun h15 => ?_) (fun h15 => ?_)
          · refine ag_tab (off := 83) (tgt := 84) h15 dX12_sums_1 (by decide) (by decide) (by decide) (by decide) ?_
            refine ag_iload_n dX12_sums_84 rfl ?_
            refine ag_iload_n dX12_sums_85 rfl ?_
            refine ag_ixor dX12_sums_86 ?_
            exact ag_irp dX12_sums_87
          · refine ag_if (fun h16 => ?_) (fun h16 => ?_)
            · refine ag_tab (off := 87) (tgt := 88) h16 dX12_sums_1 (by decide) (by decide) (by decide) (by decide) ?_
              refine ag_iload_n dX12_sums_88 rfl ?_
              refine ag_dv (j := 107) (L1 := fun _ => [some (.int x0), some (.int x1), some (.int x2), some (.int (b2i x3))]) (st1 := fun v17 => [.int v17]) (ws1 := fun _ => vwM cy bs V) (fun v17 => ?_) (fun k19 hk18 => ?_)
              · exact ag_irp dX12_sums_107
              · refine ag_bif_eq_v (tgt := 101) dX12_sums_89 (by decide) (fun h20 => ?_) (fun h20 => ?_)
                · refine ag_iload_n dX12_sums_101 rfl ?_
                  refine ag_iload_n dX12_sums_102 rfl ?_
                  refine ag_bipush (v := 31) dX12_sums_103 (by decide) ?_
                  refine ag_iand dX12_sums_105 ?_
                  refine ag_iushr dX12_sums_106 ?_
                  exact hk18 (((x1).toUInt32 >>> (Int32.toUInt32 (x2 &&& 31) &&& Int32.toUInt32 31)).toInt32)
                · refine ag_iload_n dX12_sums_92 rfl ?_
                  refine ag_iload_n dX12_sums_93 rfl ?_
                  refine ag_bipush (v := 31) dX12_sums_94 (by decide) ?_
                  refine ag_iand dX12_sums_96 ?_
                  refine ag_ishr dX12_sums_97 ?_
                  refine ag_goto (tgt := 107) dX12_sums_98 (by decide) ?_
                  exact hk18 (x1 >>> ((x2 &&& 31) &&& 31))
            · refine ag_if (fun h21 => ?_) (fun h21 => ?_)
              · refine ag_tab (off := 107) (tgt := 108) h21 dX12_sums_1 (by decide) (by decide) (by decide) (by decide) ?_
                refine ag_iload_n dX12_sums_108 rfl ?_
                refine ag_iload_n dX12_sums_109 rfl ?_
                refine ag_ior dX12_sums_110 ?_
                exact ag_irp dX12_sums_111
              · refine ag_tabD (tgt := 112) dX12_sums_1 (by have z0 := lv_neT h1 (k := 0) (a := 0) (by decide); have z1 := lv_neT h2 (k := 1) (a := 1) (by decide); have z2 := lv_neT h3 (k := 2) (a := 2) (by decide); have z3 := lv_neT h8 (k := 3) (a := 3) (by decide); have z4 := lv_neT h15 (k := 4) (a := 4) (by decide); have z5 := lv_neT h16 (k := 5) (a := 5) (by decide); have z6 := lv_neT h21 (k := 6) (a := 6) (by decide); omega) (by decide) ?_
                refine ag_iload_n dX12_sums_112 rfl ?_
                refine ag_iload_n dX12_sums_113 rfl ?_
                refine ag_iand dX12_sums_114 ?_
                exact ag_irp dX12_sums_115
set_option maxRecDepth 100000 in
set_option maxHeartbeats 4000000 in
theorem c_X12_products {l : Launch} {D : va_G} {cy : Nat → ClassId} {bs : Nat} {V : HV} (x0 : Int32) (x1 : Int32) (x2 : Int32) {z : Int32} (hz : f_X12_products x0 x1 x2 = some z) : CM l (aG 57 bs) D (tyL cy) (vwM cy bs) yX12_products cX12_products 3 (some .int) 1 20 tvI [.int x0, .int x1, .int x2] V (z, V) := by
  refine cm_of vwM_D (by decide +kernel) (own := RX12) rfl (Nat.le_of_ble_eq_true rfl) (L := [some (.int x0), some (.int x1), some (.int x2)]) rfl hz (fun Γ => ?_)
  unfold f_X12_products
  refine ag_iload_n dX12_products_0 rfl ?_
  refine ag_if (fun h1 => ?_) (fun h1 => ?_)
  · refine ag_tab (off := 43) (tgt := 44) h1 dX12_products_1 (by decide) (by decide) (by decide) (by decide) ?_
    refine ag_iload_n dX12_products_44 rfl ?_
    refine ag_iload_n dX12_products_45 rfl ?_
    refine ag_imul dX12_products_46 ?_
    exact ag_irpp dX12_products_47
  · refine ag_if (fun h2 => ?_) (fun h2 => ?_)
    · refine ag_tab (off := 47) (tgt := 48) h2 dX12_products_1 (by decide) (by decide) (by decide) (by decide) ?_
      refine ag_iload_n dX12_products_48 rfl ?_
      refine ag_i2l dX12_products_49 ?_
      refine ag_iload_n dX12_products_50 rfl ?_
      refine ag_i2l dX12_products_51 ?_
      refine ag_lmul dX12_products_52 ?_
      refine ag_bipush (v := 32) dX12_products_53 (by decide) ?_
      refine ag_lshr dX12_products_55 ?_
      refine ag_l2i dX12_products_56 ?_
      exact ag_irpp dX12_products_57
    · refine ag_if (fun h3 => ?_) (fun h3 => ?_)
      · refine ag_tab (off := 57) (tgt := 58) h3 dX12_products_1 (by decide) (by decide) (by decide) (by decide) ?_
        refine ag_iload_n dX12_products_58 rfl ?_
        refine ag_i2l dX12_products_59 ?_
        refine ag_iload_n dX12_products_60 rfl ?_
        refine ag_isJp (c_X12_plain x2  rfl) vwM_D cs_X12_260 rfl rfl (Nat.le_of_ble_eq_true rfl) ⟨by decide, by decide⟩ ⟨Nat.zero_le _, Nat.zero_le _⟩ dX12_products_61 ?_
        refine ag_ltJ (fun v4 => ?_)
        refine ag_lmul dX12_products_64 ?_
        refine ag_bipush (v := 32) dX12_products_65 (by decide) ?_
        refine ag_lshr dX12_products_67 ?_
        refine ag_l2i dX12_products_68 ?_
        exact ag_irpp dX12_products_69
      · refine ag_if (fun h5 => ?_) (fun h5 => ?_)
        · refine ag_tab (off := 69) (tgt := 70) h5 dX12_products_1 (by decide) (by decide) (by decide) (by decide) ?_
          refine ag_iload_n dX12_products_70 rfl ?_
          refine ag_isJp (c_X12_plain x1  rfl) vwM_D cs_X12_260 rfl rfl (Nat.le_of_ble_eq_true rfl) ⟨by decide, by decide⟩ ⟨Nat.zero_le _, Nat.zero_le _⟩ dX12_products_71 ?_
          refine ag_ltJ (fun v6 => ?_)
          refine ag_iload_n dX12_products_74 rfl ?_
          refine ag_isJp (c_X12_plain x2  rfl) vwM_D cs_X12_260 rfl rfl (Nat.le_of_ble_eq_true rfl) ⟨by decide, by decide⟩ ⟨Nat.zero_le _, Nat.zero_le _⟩ dX12_products_75 ?_
          refine ag_ltJ (fun v7 => ?_)
          refine ag_lmul dX12_products_78 ?_
          refine ag_bipush (v := 32) dX12_products_79 (by decide) ?_
          refine ag_lushr dX12_products_81 ?_
          refine ag_l2i dX12_products_82 ?_
          exact ag_irpp dX12_products_83
        · refine ag_if (fun h8 => ?_) (fun h8 => ?_)
          · refine ag_tab (off := 83) (tgt := 84) h8 dX12_products_1 (by decide) (by decide) (by decide) (by decide) ?_
            refine ag_iload_n dX12_products_84 rfl ?_
            refine ag_if_ne (tgt := 92) dX12_products_85 (by decide) (fun h9 => ?_) (fun h9 => ?_)
            · refine ag_iload_n dX12_products_92 rfl ?_
              refine ag_iconst (v := (-1)) dX12_products_93 (by decide) ?_
              refine ag_icmp_ne (tgt := 102) dX12_products_94 (by decide) (fun h10 => ?_) (fun h10 => ?_)
              · refine ag_iload_n dX12_products_102 rfl ?_
                refine ag_iload_n dX12_products_103 rfl ?_
                refine ag_chk (fun h11 => ?_)
                refine ag_idiv dX12_products_104 h11 ?_
                exact ag_irpp dX12_products_105
              · refine ag_iload_n dX12_products_97 rfl ?_
                refine ag_ineg dX12_products_98 ?_
                refine ag_goto (tgt := 105) dX12_products_99 (by decide) ?_
                exact ag_irpp dX12_products_105
            · refine ag_iconst (v := (-1)) dX12_products_88 (by decide) ?_
              refine ag_goto (tgt := 105) dX12_products_89 (by decide) ?_
              exact ag_irpp dX12_products_105
          · refine ag_if (fun h12 => ?_) (fun h12 => ?_)
            · refine ag_tab (off := 105) (tgt := 106) h12 dX12_products_1 (by decide) (by decide) (by decide) (by decide) ?_
              refine ag_iload_n dX12_products_106 rfl ?_
              refine ag_if_ne (tgt := 114) dX12_products_107 (by decide) (fun h13 => ?_) (fun h13 => ?_)
              · refine ag_iload_n dX12_products_114 rfl ?_
                refine ag_isJp (c_X12_plain x1  rfl) vwM_D cs_X12_260 rfl rfl (Nat.le_of_ble_eq_true rfl) ⟨by decide, by decide⟩ ⟨Nat.zero_le _, Nat.zero_le _⟩ dX12_products_115 ?_
                refine ag_ltJ (fun v14 => ?_)
                refine ag_iload_n dX12_products_118 rfl ?_
                refine ag_isJp (c_X12_plain x2  rfl) vwM_D cs_X12_260 rfl rfl (Nat.le_of_ble_eq_true rfl) ⟨by decide, by decide⟩ ⟨Nat.zero_le _, Nat.zero_le _⟩ dX12_products_119 ?_
                refine ag_ltJ (fun v15 => ?_)
                refine ag_chk (fun h16 => ?_)
                refine ag_ldiv dX12_products_122 h16 ?_
                refine ag_l2i dX12_products_123 ?_
                exact ag_irpp dX12_products_124
              · refine ag_iconst (v := (-1)) dX12_products_110 (by decide) ?_
                refine ag_goto (tgt := 124) dX12_products_111 (by decide) ?_
                exact ag_irpp dX12_products_124
            · refine ag_if (fun h17 => ?_) (fun h17 => ?_)
              · refine ag_tab (off := 124) (tgt := 125) h17 dX12_products_1 (by decide) (by decide) (by decide) (by decide) ?_
                refine ag_iload_n dX12_products_125 rfl ?_
                refine ag_if_ne (tgt := 133) dX12_products_126 (by decide) (fun h18 => ?_) (fun h18 => ?_)
                · refine ag_iload_n dX12_products_133 rfl ?_
                  refine ag_iconst (v := (-1)) dX12_products_134 (by decide) ?_
                  refine ag_icmp_ne (tgt := 142) dX12_products_135 (by decide) (fun h19 => ?_) (fun h19 => ?_)
                  · refine ag_iload_n dX12_products_142 rfl ?_
                    refine ag_iload_n dX12_products_143 rfl ?_
                    refine ag_chk (fun h20 => ?_)
                    refine ag_irem dX12_products_144 h20 ?_
                    exact ag_irpp dX12_products_145
                  · refine ag_iconst (v := 0) dX12_products_138 (by decide) ?_
                    refine ag_goto (tgt := 145) dX12_products_139 (by decide) ?_
                    exact ag_irpp dX12_products_145
                · refine ag_iload_n dX12_products_129 rfl ?_
                  refine ag_goto (tgt := 145) dX12_products_130 (by decide) ?_
                  exact ag_irpp dX12_products_145
              · refine ag_tabD (tgt := 146) dX12_products_1 (by have z0 := lv_neT h1 (k := 0) (a := 0) (by decide); have z1 := lv_neT h2 (k := 1) (a := 1) (by decide); have z2 := lv_neT h3 (k := 2) (a := 2) (by decide); have z3 := lv_neT h5 (k := 3) (a := 3) (by decide); have z4 := lv_neT h8 (k := 4) (a := 4) (by decide); have z5 := lv_neT h12 (k := 5) (a := 5) (by decide); have z6 := lv_neT h17 (k := 6) (a := 6) (by decide); omega) (by decide) ?_
                refine ag_iload_n dX12_products_146 rfl ?_
                refine ag_if_ne (tgt := 154) dX12_products_147 (by decide) (fun h21 => ?_) (fun h21 => ?_)
                · refine ag_iload_n dX12_products_154 rfl ?_
                  refine ag_isJp (c_X12_plain x1  rfl) vwM_D cs_X12_260 rfl rfl (Nat.le_of_ble_eq_true rfl) ⟨by decide, by decide⟩ ⟨Nat.zero_le _, Nat.zero_le _⟩ dX12_products_155 ?_
                  refine ag_ltJ (fun v22 => ?_)
                  refine ag_iload_n dX12_products_158 rfl ?_
                  refine ag_isJp (c_X12_plain x2  rfl) vwM_D cs_X12_260 rfl rfl (Nat.le_of_ble_eq_true rfl) ⟨by decide, by decide⟩ ⟨Nat.zero_le _, Nat.zero_le _⟩ dX12_products_159 ?_
                  refine ag_ltJ (fun v23 => ?_)
                  refine ag_chk (fun h24 => ?_)
                  refine ag_lrem dX12_products_162 h24 ?_
                  refine ag_l2i dX12_products_163 ?_
                  exact ag_irpp dX12_products_164
                · refine ag_iload_n dX12_products_150 rfl ?_
                  refine ag_goto (tgt := 164) dX12_products_151 (by decide) ?_
                  exact ag_irpp dX12_products_164
set_option maxRecDepth 100000 in
set_option maxHeartbeats 4000000 in
theorem c_X12_isDevice {l : Launch} {D : va_G} {cy : Nat → ClassId} {bs : Nat} {V : HV} (o0 : Nat) (x1 : Int32) (ho0 : o0 < 1) {z : Bool} (hz : f_X12_isDevice o0 x1 = z) : CM l (aG 57 bs) D (tyL cy) (vwM cy bs) yX12_isDevice cX12_isDevice 2 (some .boolean) 1 20 tvZ [.ref (bs + posM 10 o0), .int x1] V (z, V) := by
  refine cm_of vwM_D (by decide +kernel) (own := RX12) rfl (Nat.le_of_ble_eq_true rfl) (L := [some (.ref (bs + posM 10 o0)), some (.int x1)]) rfl hz (fun Γ => ?_)
  unfold f_X12_isDevice
  refine ag_iload_n dX12_isDevice_0 rfl ?_
  refine ag_isJp (c_X12_plain x1  rfl) vwM_D cs_X12_260 rfl rfl (Nat.le_of_ble_eq_true rfl) ⟨by decide, by decide⟩ ⟨Nat.zero_le _, Nat.zero_le _⟩ dX12_isDevice_1 ?_
  refine ag_ltJ (fun v1 => ?_)
  refine ag_ldc2 kc_X12_406 dX12_isDevice_4 ?_
  refine ag_lcmp dX12_isDevice_7 ?_
  refine ag_dv (j := 16) (L1 := fun _ => [some (.ref (bs + posM 10 o0)), some (.int x1)]) (st1 := fun v2 => [.int (b2i v2)]) (ws1 := fun _ => vwM cy bs V) (fun v2 => ?_) (fun k4 hk3 => ?_)
  · exact ag_zrp (x := v2) dX12_isDevice_16
  · refine ag_if_lt_v (tgt := 15) dX12_isDevice_8 (by decide) (fun h5 => ?_) (fun h5 => ?_)
    · refine ag_iconst (v := 0) dX12_isDevice_15 (by decide) ?_
      exact hk3 false
    · refine ag_iconst (v := 1) dX12_isDevice_11 (by decide) ?_
      refine ag_goto (tgt := 16) dX12_isDevice_12 (by decide) ?_
      exact hk3 true
set_option maxRecDepth 100000 in
set_option maxHeartbeats 4000000 in
theorem c_X12_device {l : Launch} {D : va_G} {cy : Nat → ClassId} {bs : Nat} {V : HV} (o0 : Nat) (x1 : Int32) (ho0 : o0 < 1) {z : Int32 × HV} (hz : f_X12_device o0 x1 V = some z) : CM l (aG 57 bs) D (tyL cy) (vwM cy bs) yX12_device cX12_device 4 (some .int) 0 0 tvI [.ref (bs + posM 10 o0), .int x1] V z := by
  refine cm_of vwM_D (by decide +kernel) (own := RX12) rfl (Nat.le_of_ble_eq_true rfl) (L := [some (.ref (bs + posM 10 o0)), some (.int x1), none, none]) rfl hz (fun Γ => ?_)
  unfold f_X12_device
  refine ag_iload_n dX12_device_0 rfl ?_
  refine ag_iconst (v := 4) dX12_device_1 (by decide) ?_
  refine ag_icmp_ne (tgt := 10) dX12_device_2 (by decide) (fun h1 => ?_) (fun h1 => ?_)
  · refine ag_iload_n dX12_device_10 rfl ?_
    refine ag_bipush (v := 8) dX12_device_11 (by decide) ?_
    refine ag_icmp_ne (tgt := 21) dX12_device_13 (by decide) (fun h2 => ?_) (fun h2 => ?_)
    · refine ag_iload_n dX12_device_21 rfl ?_
      refine ag_if_eq (tgt := 27) dX12_device_22 (by decide) (fun h3 => ?_) (fun h3 => ?_)
      · refine ag_aload_n dX12_device_27 rfl ?_
        refine gM_X12_waitingMany ho0 fl_X12_237 dX12_device_28 ?_
        refine ag_if_ne (tgt := 36) dX12_device_31 (by decide) (fun h4 => ?_) (fun h4 => ?_)
        · refine ag_aload_n dX12_device_36 rfl ?_
          refine gM_X12_waiting ho0 fl_X12_133 dX12_device_37 ?_
          refine ag_iconst (v := 0) dX12_device_40 (by decide) ?_
          refine ag_chk (fun h5 => ?_)
          refine aM_83 (by decide) h5 dX12_device_41 ?_
          refine ag_ltI (fun v6 => ?_)
          refine ag_istore_n (L' := [some (.ref (bs + posM 10 o0)), some (.int x1), some (.int v6), none]) dX12_device_42 (by decide) rfl ?_
          refine ag_aload_n dX12_device_43 rfl ?_
          refine ag_dup dX12_device_44 rfl ?_
          refine gM_X12_waitingMany ho0 fl_X12_237 dX12_device_45 ?_
          refine ag_iconst (v := 1) dX12_device_48 (by decide) ?_
          refine ag_isub dX12_device_49 ?_
          refine pM_X12_waitingMany ho0 fl_X12_237 dX12_device_50 ?_
          refine ag_ltV (fun V7 => ?_)
          refine ag_iconst (v := 0) dX12_device_53 (by decide) ?_
          refine ag_istore_n (L' := [some (.ref (bs + posM 10 o0)), some (.int x1), some (.int v6), some (.int 0)]) dX12_device_54 (by decide) rfl ?_
          refine ag_jn1 (j := 83) (L1 := fun V10 => [some (.ref (bs + posM 10 o0)), some (.int x1), some (.int v6), none]) (st1 := fun V10 => []) (ws1 := fun V10 => vwM cy bs V10) (fun V10 => ?_) (fun k8 hk9 => ?_)
          · refine ag_iload_n dX12_device_83 rfl ?_
            exact ag_irep dX12_device_84
          · refine ag_loop2 (F := f_X12_device_L55 o0 k8) (L1 := fun v11 V12 => [some (.ref (bs + posM 10 o0)), some (.int x1), some (.int v6), some (.int v11)]) (st1 := fun v11 V12 => []) (ws1 := fun v11 V12 => vwM cy bs V12) (fun n13 ih14 v11 V12 => ?_) (fun _ _ => rfl) FU 0 V7
            rw [f_X12_device_L55]
            refine ag_iload_n dX12_device_55 rfl ?_
            refine ag_aload_n dX12_device_56 rfl ?_
            refine gM_X12_waitingMany ho0 fl_X12_237 dX12_device_57 ?_
            refine ag_icmp_ge (tgt := 83) dX12_device_60 (by decide) (fun h15 => ?_) (fun h15 => ?_)
            · refine ag_drop [3] (L' := [some (.ref (bs + posM 10 o0)), some (.int x1), some (.int v6), none]) rfl ?_
              exact hk9 V12
            · refine ag_aload_n dX12_device_63 rfl ?_
              refine gM_X12_waiting ho0 fl_X12_133 dX12_device_64 ?_
              refine ag_iload_n dX12_device_67 rfl ?_
              refine ag_aload_n dX12_device_68 rfl ?_
              refine gM_X12_waiting ho0 fl_X12_133 dX12_device_69 ?_
              refine ag_iload_n dX12_device_72 rfl ?_
              refine ag_iconst (v := 1) dX12_device_73 (by decide) ?_
              refine ag_iadd dX12_device_74 ?_
              refine ag_chk (fun h16 => ?_)
              refine aM_83 (by decide) h16 dX12_device_75 ?_
              refine ag_chk (fun h17 => ?_)
              refine sM_83 (by decide) h17 dX12_device_76 ?_
              refine ag_ltV (fun V18 => ?_)
              refine ag_iincL (L' := fun v19 => [some (.ref (bs + posM 10 o0)), some (.int x1), some (.int v6), some (.int v19)]) dX12_device_77 (by decide) rfl (by decide) (fun _ => rfl) (fun v19 => ?_)
              refine ag_goto (tgt := 55) dX12_device_80 (by decide) ?_
              exact ih14 v19 V18
        · refine ag_iconst (v := (-1)) dX12_device_34 (by decide) ?_
          exact ag_irep dX12_device_35
      · refine ag_iconst (v := 0) dX12_device_25 (by decide) ?_
        exact ag_irep dX12_device_26
    · refine ag_aload_n dX12_device_16 rfl ?_
      refine gM_X12_t0 ho0 fl_X12_330 dX12_device_17 ?_
      exact ag_irep dX12_device_20
  · refine ag_aload_n dX12_device_5 rfl ?_
    refine gM_X12_time ho0 fl_X12_201 dX12_device_6 ?_
    exact ag_irep dX12_device_9
set_option maxRecDepth 100000 in
set_option maxHeartbeats 4000000 in
theorem c_X12_loads {l : Launch} {D : va_G} {cy : Nat → ClassId} {bs : Nat} {V : HV} (o0 : Nat) (x1 : Int32) (ho0 : o0 < 1) {z : Int32 × HV} (hz : f_X12_loads o0 x1 V = some z) : CM l (aG 57 bs) D (tyL cy) (vwM cy bs) yX12_loads cX12_loads 7 (some .int) 3 71 tvI [.ref (bs + posM 10 o0), .int x1] V z := by
  refine cm_of vwM_D (by decide +kernel) (own := RX12) rfl (Nat.le_of_ble_eq_true rfl) (L := [some (.ref (bs + posM 10 o0)), some (.int x1), none, none, none, none, none]) rfl hz (fun Γ => ?_)
  unfold f_X12_loads
  refine ag_aload_n dX12_loads_0 rfl ?_
  refine ag_ivIp (c_X12_f o0 ho0 rfl) vwM_D (vwM_at (kpM_10 _ ho0)) rfl cs_X12_352 rfl rfl (Nat.le_of_ble_eq_true rfl) ⟨by decide, by decide⟩ ⟨Nat.zero_le _, Nat.zero_le _⟩ dX12_loads_1 ?_
  refine ag_ltI (fun v1 => ?_)
  refine ag_istore_n (L' := [some (.ref (bs + posM 10 o0)), some (.int x1), some (.int v1), none, none, none, none]) dX12_loads_4 (by decide) rfl ?_
  refine ag_aload_n dX12_loads_5 rfl ?_
  refine gM_X12_t0 ho0 fl_X12_330 dX12_loads_6 ?_
  refine ag_aload_n dX12_loads_9 rfl ?_
  refine ag_ivIp (c_X12_a o0 ho0 rfl) vwM_D (vwM_at (kpM_10 _ ho0)) rfl cs_X12_346 rfl rfl (Nat.le_of_ble_eq_true rfl) ⟨by decide, by decide⟩ ⟨Nat.zero_le _, Nat.zero_le _⟩ dX12_loads_10 ?_
  refine ag_ltI (fun v2 => ?_)
  refine ag_isIp (c_X12_reg (V 1080 o0 0) v2  rfl) vwM_D cs_X12_307 rfl rfl (Nat.le_of_ble_eq_true rfl) ⟨by decide, by decide⟩ ⟨Nat.zero_le _, Nat.zero_le _⟩ dX12_loads_13 ?_
  refine ag_ltI (fun v3 => ?_)
  refine ag_istore_n (L' := [some (.ref (bs + posM 10 o0)), some (.int x1), some (.int v1), some (.int v3), none, none, none]) dX12_loads_16 (by decide) rfl ?_
  refine ag_iload_n dX12_loads_17 rfl ?_
  refine ag_dv (j := 55) (L1 := fun _ => [some (.ref (bs + posM 10 o0)), some (.int x1), some (.int v1), some (.int v3), none, none, none]) (st1 := fun v4 => [.int v4]) (ws1 := fun _ => vwM cy bs V) (fun v4 => ?_) (fun k46 hk5 => ?_)
  · refine ag_istore (L' := [some (.ref (bs + posM 10 o0)), some (.int x1), some (.int v1), some (.int v3), some (.int v4), none, none]) dX12_loads_55 (by decide) rfl ?_
    refine ag_aload_n dX12_loads_57 rfl ?_
    refine ag_iload_n dX12_loads_58 rfl ?_
    refine ag_iconst (v := 1) dX12_loads_59 (by decide) ?_
    refine ag_iload_n dX12_loads_60 rfl ?_
    refine ag_iload dX12_loads_61 rfl ?_
    refine ag_bnd (fun p6 hp6 => ?_)
    refine ag_ivIp (c_X12_refuses o0 v3 1 x1 v4 ho0 hp6) vwM_D (vwM_at (kpM_10 _ ho0)) rfl cs_X12_358 rfl rfl (Nat.le_of_ble_eq_true rfl) ⟨by decide, by decide⟩ ⟨Nat.zero_le _, Nat.zero_le _⟩ dX12_loads_63 ?_
    refine ag_istore (L' := [some (.ref (bs + posM 10 o0)), some (.int x1), some (.int v1), some (.int v3), some (.int v4), some (.int p6), none]) dX12_loads_66 (by decide) rfl ?_
    refine ag_iload dX12_loads_68 rfl ?_
    refine ag_if_eq (tgt := 76) dX12_loads_70 (by decide) (fun h7 => ?_) (fun h7 => ?_)
    · refine ag_aload_n dX12_loads_76 rfl ?_
      refine ag_iload_n dX12_loads_77 rfl ?_
      refine ag_ivZp (c_X12_isDevice o0 x1 ho0 rfl) vwM_D (vwM_at (kpM_10 _ ho0)) rfl cs_X12_408 rfl rfl (Nat.le_of_ble_eq_true rfl) ⟨by decide, by decide⟩ ⟨Nat.zero_le _, Nat.zero_le _⟩ dX12_loads_78 ?_
      refine ag_ltZ (fun v8 => ?_)
      refine ag_jn0 (j := 92) (L1 := [some (.ref (bs + posM 10 o0)), some (.int x1), some (.int v1), some (.int v3), some (.int v4), some (.int p6), none]) (st1 := []) (ws1 := vwM cy bs V) (?_) (fun k9 hk10 => ?_)
      · refine ag_aload_n dX12_loads_92 rfl ?_
        refine ag_iload_n dX12_loads_93 rfl ?_
        refine ag_ivZp (c_X12_isDevice o0 x1 ho0 rfl) vwM_D (vwM_at (kpM_10 _ ho0)) rfl cs_X12_408 rfl rfl (Nat.le_of_ble_eq_true rfl) ⟨by decide, by decide⟩ ⟨Nat.zero_le _, Nat.zero_le _⟩ dX12_loads_94 ?_
        refine ag_ltZ (fun v11 => ?_)
        refine ag_jn1 (j := 232) (L1 := fun V12 => [some (.ref (bs + posM 10 o0)), some (.int x1), some (.int v1), some (.int v3), some (.int v4), some (.int p6), none]) (st1 := fun V12 => []) (ws1 := fun V12 => vwM cy bs V12) (fun V12 => ?_) (fun k13 hk14 => ?_)
        · refine ag_aload_n dX12_loads_232 rfl ?_
          refine ag_bnd (fun p15 hp15 => ?_)
          refine ag_ivVe (c_X12_goesOn o0 ho0 hp15) vwM_D (vwM_at (kpM_10 _ ho0)) rfl cs_X12_369 rfl rfl (Nat.le_of_ble_eq_true rfl) ⟨by decide, by decide⟩ ⟨Nat.zero_le _, Nat.zero_le _⟩ dX12_loads_233 ?_
          refine ag_iconst (v := 0) dX12_loads_236 (by decide) ?_
          exact ag_irep dX12_loads_237
        · refine ag_bif_eq (tgt := 120) dX12_loads_97 (by decide) (fun h16 => ?_) (fun h16 => ?_)
          · refine ag_iload dX12_loads_120 rfl ?_
            refine ag_bipush (v := 16) dX12_loads_122 (by decide) ?_
            refine ag_icmp_ne (tgt := 192) dX12_loads_124 (by decide) (fun h17 => ?_) (fun h17 => ?_)
            · refine ag_aload_n dX12_loads_192 rfl ?_
              refine ag_iload_n dX12_loads_193 rfl ?_
              refine ag_iload dX12_loads_194 rfl ?_
              refine ag_bnd (fun p18 hp18 => ?_)
              refine ag_ivIp (c_X12_get o0 x1 v4 ho0 hp18) vwM_D (vwM_at (kpM_10 _ ho0)) rfl cs_X12_264 rfl rfl (Nat.le_of_ble_eq_true rfl) ⟨by decide, by decide⟩ ⟨Nat.zero_le _, Nat.zero_le _⟩ dX12_loads_196 ?_
              refine ag_istore (L' := [some (.ref (bs + posM 10 o0)), some (.int x1), some (.int v1), some (.int v3), some (.int v4), some (.int p6), some (.int p18)]) dX12_loads_199 (by decide) rfl ?_
              refine ag_aload_n dX12_loads_201 rfl ?_
              refine ag_aload_n dX12_loads_202 rfl ?_
              refine ag_ivIp (c_X12_d o0 ho0 rfl) vwM_D (vwM_at (kpM_10 _ ho0)) rfl cs_X12_343 rfl rfl (Nat.le_of_ble_eq_true rfl) ⟨by decide, by decide⟩ ⟨Nat.zero_le _, Nat.zero_le _⟩ dX12_loads_203 ?_
              refine ag_ltI (fun v19 => ?_)
              refine ag_iload_n dX12_loads_206 rfl ?_
              refine ag_dv (j := 229) (L1 := fun _ => [some (.ref (bs + posM 10 o0)), some (.int x1), some (.int v1), some (.int v3), some (.int v4), some (.int p6), some (.int p18)]) (st1 := fun v20 => [.int v20, .int v19, .ref (bs + posM 10 o0)]) (ws1 := fun _ => vwM cy bs V) (fun v20 => ?_) (fun k23 hk21 => ?_)
              · refine ag_bnd (fun p22 hp22 => ?_)
                refine ag_ivVe (c_X12_writes o0 v19 v20 ho0 hp22) vwM_D (vwM_at (kpM_10 _ ho0)) rfl cs_X12_366 rfl rfl (Nat.le_of_ble_eq_true rfl) ⟨by decide, by decide⟩ ⟨Nat.zero_le _, Nat.zero_le _⟩ dX12_loads_229 ?_
                refine ag_drop [6] (L' := [some (.ref (bs + posM 10 o0)), some (.int x1), some (.int v1), some (.int v3), some (.int v4), some (.int p6), none]) rfl ?_
                exact hk14 p22
              · refine ag_if_ne_v (tgt := 216) dX12_loads_207 (by decide) (fun h24 => ?_) (fun h24 => ?_)
                · refine ag_iload_n dX12_loads_216 rfl ?_
                  refine ag_iconst (v := 1) dX12_loads_217 (by decide) ?_
                  refine ag_icmp_ne_v (tgt := 227) dX12_loads_218 (by decide) (fun h25 => ?_) (fun h25 => ?_)
                  · refine ag_iload dX12_loads_227 rfl ?_
                    exact hk21 p18
                  · refine ag_iload dX12_loads_221 rfl ?_
                    refine ag_i2s dX12_loads_223 ?_
                    refine ag_goto (tgt := 229) dX12_loads_224 (by decide) ?_
                    exact hk21 p18.toInt16.toInt32
                · refine ag_iload dX12_loads_210 rfl ?_
                  refine ag_i2b dX12_loads_212 ?_
                  refine ag_goto (tgt := 229) dX12_loads_213 (by decide) ?_
                  exact hk21 p18.toInt8.toInt32
            · refine ag_aload_n dX12_loads_127 rfl ?_
              refine ag_iload_n dX12_loads_128 rfl ?_
              refine ag_sipush (v := 582) dX12_loads_129 (by decide) ?_
              refine ag_bnd (fun p26 hp26 => ?_)
              refine ag_ivVe (c_X12_getCapability o0 x1 582 ho0 hp26) vwM_D (vwM_at (kpM_10 _ ho0)) rfl cs_X12_414 rfl rfl (Nat.le_of_ble_eq_true rfl) ⟨by decide, by decide⟩ ⟨Nat.zero_le _, Nat.zero_le _⟩ dX12_loads_132 ?_
              refine ag_aload_n dX12_loads_135 rfl ?_
              refine gM_X12_tag ho0 fl_X12_25 dX12_loads_136 ?_
              refine ag_sipush (v := 582) dX12_loads_139 (by decide) ?_
              refine ag_aload_n dX12_loads_142 rfl ?_
              refine gM_X12_tag ho0 fl_X12_25 dX12_loads_143 ?_
              refine ag_sipush (v := 582) dX12_loads_146 (by decide) ?_
              refine ag_chk (fun h27 => ?_)
              refine aM_29 (by decide) h27 dX12_loads_149 ?_
              refine ag_jn1 (j := 170) (L1 := fun v28 => [some (.ref (bs + posM 10 o0)), some (.int x1), some (.int v1), some (.int v3), some (.int v4), some (.int p6), none]) (st1 := fun v28 => [.int (b2i v28), .int 582, .ref (bs + posM 29 0)]) (ws1 := fun v28 => vwM cy bs p26) (fun v28 => ?_) (fun k29 hk30 => ?_)
              · refine ag_chk (fun h31 => ?_)
                refine sM_29 (x := v28) (by decide) h31 dX12_loads_170 ?_
                refine ag_ltV (fun V32 => ?_)
                refine ag_aload_n dX12_loads_171 rfl ?_
                refine ag_sipush (v := 582) dX12_loads_172 (by decide) ?_
                refine ag_bnd (fun p33 hp33 => ?_)
                refine ag_ivVe (c_X12_filter o0 582 ho0 hp33) vwM_D (vwM_at (kpM_10 _ ho0)) rfl cs_X12_417 rfl rfl (Nat.le_of_ble_eq_true rfl) ⟨by decide, by decide⟩ ⟨Nat.zero_le _, Nat.zero_le _⟩ dX12_loads_175 ?_
                refine ag_aload_n dX12_loads_178 rfl ?_
                refine ag_sipush (v := 582) dX12_loads_179 (by decide) ?_
                refine ag_aload_n dX12_loads_182 rfl ?_
                refine ag_ivIp (c_X12_d o0 ho0 rfl) vwM_D (vwM_at (kpM_10 _ ho0)) rfl cs_X12_343 rfl rfl (Nat.le_of_ble_eq_true rfl) ⟨by decide, by decide⟩ ⟨Nat.zero_le _, Nat.zero_le _⟩ dX12_loads_183 ?_
                refine ag_ltI (fun v34 => ?_)
                refine ag_bnd (fun p35 hp35 => ?_)
                refine ag_ivVe (c_X12_comes o0 582 v34 ho0 hp35) vwM_D (vwM_at (kpM_10 _ ho0)) rfl cs_X12_372 rfl rfl (Nat.le_of_ble_eq_true rfl) ⟨by decide, by decide⟩ ⟨Nat.zero_le _, Nat.zero_le _⟩ dX12_loads_186 ?_
                refine ag_goto (tgt := 232) dX12_loads_189 (by decide) ?_
                exact hk14 p35
              · refine ag_jn0 (j := 169) (L1 := [some (.ref (bs + posM 10 o0)), some (.int x1), some (.int v1), some (.int v3), some (.int v4), some (.int p6), none]) (st1 := [.int 582, .ref (bs + posM 29 0)]) (ws1 := vwM cy bs p26) (?_) (fun k36 hk37 => ?_)
                · refine ag_iconst (v := 0) dX12_loads_169 (by decide) ?_
                  exact hk30 false
                · refine ag_bif_eq (tgt := 169) dX12_loads_150 (by decide) (fun h38 => ?_) (fun h38 => ?_)
                  · exact hk37
                  · refine ag_aload_n dX12_loads_153 rfl ?_
                    refine gM_X12_perms ho0 fl_X12_19 dX12_loads_154 ?_
                    refine ag_iload_n dX12_loads_157 rfl ?_
                    refine ag_chk (fun h39 => ?_)
                    refine aM_27 (by decide) h39 dX12_loads_158 ?_
                    refine ag_bipush (v := 8) dX12_loads_159 (by decide) ?_
                    refine ag_iand dX12_loads_161 ?_
                    refine ag_if_eq (tgt := 169) dX12_loads_162 (by decide) (fun h40 => ?_) (fun h40 => ?_)
                    · exact hk37
                    · refine ag_iconst (v := 1) dX12_loads_165 (by decide) ?_
                      refine ag_goto (tgt := 170) dX12_loads_166 (by decide) ?_
                      exact hk30 true
          · refine ag_aload_n dX12_loads_100 rfl ?_
            refine ag_aload_n dX12_loads_101 rfl ?_
            refine ag_ivIp (c_X12_d o0 ho0 rfl) vwM_D (vwM_at (kpM_10 _ ho0)) rfl cs_X12_343 rfl rfl (Nat.le_of_ble_eq_true rfl) ⟨by decide, by decide⟩ ⟨Nat.zero_le _, Nat.zero_le _⟩ dX12_loads_102 ?_
            refine ag_ltI (fun v41 => ?_)
            refine ag_aload_n dX12_loads_105 rfl ?_
            refine ag_iload_n dX12_loads_106 rfl ?_
            refine ag_ldcw kc_X12_301 dX12_loads_107 ?_
            refine ag_isub dX12_loads_110 ?_
            refine ag_bnd (fun p42 hp42 => ?_)
            refine ag_ivIe (c_X12_device o0 (x1 - 268435456) ho0 hp42) vwM_D (vwM_at (kpM_10 _ ho0)) rfl cs_X12_411 rfl rfl (Nat.le_of_ble_eq_true rfl) ⟨by decide, by decide⟩ ⟨Nat.zero_le _, Nat.zero_le _⟩ dX12_loads_111 ?_
            refine ag_bnd (fun p43 hp43 => ?_)
            refine ag_ivVe (c_X12_writes o0 v41 p42.1 ho0 hp43) vwM_D (vwM_at (kpM_10 _ ho0)) rfl cs_X12_366 rfl rfl (Nat.le_of_ble_eq_true rfl) ⟨by decide, by decide⟩ ⟨Nat.zero_le _, Nat.zero_le _⟩ dX12_loads_114 ?_
            refine ag_goto (tgt := 232) dX12_loads_117 (by decide) ?_
            exact hk14 p43
      · refine ag_bif_eq (tgt := 92) dX12_loads_81 (by decide) (fun h44 => ?_) (fun h44 => ?_)
        · exact hk10
        · refine ag_iload dX12_loads_84 rfl ?_
          refine ag_iconst (v := 4) dX12_loads_86 (by decide) ?_
          refine ag_icmp_eq (tgt := 92) dX12_loads_87 (by decide) (fun h45 => ?_) (fun h45 => ?_)
          · exact hk10
          · refine ag_iconst (v := 5) dX12_loads_90 (by decide) ?_
            exact ag_irep dX12_loads_91
    · refine ag_iload dX12_loads_73 rfl ?_
      exact ag_irep dX12_loads_75
  · refine ag_if_eq_v (tgt := 26) dX12_loads_18 (by decide) (fun h47 => ?_) (fun h47 => ?_)
    · refine ag_iconst (v := 1) dX12_loads_26 (by decide) ?_
      refine ag_goto (tgt := 55) dX12_loads_27 (by decide) ?_
      exact hk5 1
    · refine ag_iload_n dX12_loads_21 rfl ?_
      refine ag_iconst (v := 4) dX12_loads_22 (by decide) ?_
      refine ag_icmp_ne_v (tgt := 30) dX12_loads_23 (by decide) (fun h48 => ?_) (fun h48 => ?_)
      · refine ag_iload_n dX12_loads_30 rfl ?_
        refine ag_iconst (v := 1) dX12_loads_31 (by decide) ?_
        refine ag_icmp_eq_v (tgt := 40) dX12_loads_32 (by decide) (fun h49 => ?_) (fun h49 => ?_)
        · refine ag_iconst (v := 2) dX12_loads_40 (by decide) ?_
          refine ag_goto (tgt := 55) dX12_loads_41 (by decide) ?_
          exact hk5 2
        · refine ag_iload_n dX12_loads_35 rfl ?_
          refine ag_iconst (v := 5) dX12_loads_36 (by decide) ?_
          refine ag_icmp_ne_v (tgt := 44) dX12_loads_37 (by decide) (fun h50 => ?_) (fun h50 => ?_)
          · refine ag_iload_n dX12_loads_44 rfl ?_
            refine ag_iconst (v := 2) dX12_loads_45 (by decide) ?_
            refine ag_icmp_ne_v (tgt := 53) dX12_loads_46 (by decide) (fun h51 => ?_) (fun h51 => ?_)
            · refine ag_bipush (v := 16) dX12_loads_53 (by decide) ?_
              exact hk5 16
            · refine ag_iconst (v := 4) dX12_loads_49 (by decide) ?_
              refine ag_goto (tgt := 55) dX12_loads_50 (by decide) ?_
              exact hk5 4
          · refine ag_iconst (v := 2) dX12_loads_40 (by decide) ?_
            refine ag_goto (tgt := 55) dX12_loads_41 (by decide) ?_
            exact hk5 2
      · refine ag_iconst (v := 1) dX12_loads_26 (by decide) ?_
        refine ag_goto (tgt := 55) dX12_loads_27 (by decide) ?_
        exact hk5 1
set_option maxRecDepth 100000 in
set_option maxHeartbeats 4000000 in
theorem c_X12_writesOut {l : Launch} {D : va_G} {cy : Nat → ClassId} {bs : Nat} {V : HV} (o0 : Nat) (x1 : Int32) (ho0 : o0 < 1) {z : HV} (hz : f_X12_writesOut o0 x1 V = some z) : CM l (aG 57 bs) D (tyL cy) (vwM cy bs) yX12_writesOut cX12_writesOut 2 none 0 0 tvV [.ref (bs + posM 10 o0), .int x1] V ((), z) := by
  refine cm_of vwM_D (by decide +kernel) (own := RX12) rfl (Nat.le_of_ble_eq_true rfl) (L := [some (.ref (bs + posM 10 o0)), some (.int x1)]) rfl hz (fun Γ => ?_)
  unfold f_X12_writesOut
  refine ag_aload_n dX12_writesOut_0 rfl ?_
  refine gM_X12_outMany ho0 fl_X12_243 dX12_writesOut_1 ?_
  refine ag_sipush (v := 500) dX12_writesOut_4 (by decide) ?_
  refine ag_jn1 (j := 34) (L1 := fun V1 => [some (.ref (bs + posM 10 o0)), some (.int x1)]) (st1 := fun V1 => []) (ws1 := fun V1 => vwM cy bs V1) (fun V1 => ?_) (fun k2 hk3 => ?_)
  · refine ag_aload_n dX12_writesOut_34 rfl ?_
    refine gM_X12_out ho0 fl_X12_136 dX12_writesOut_35 ?_
    refine ag_aload_n dX12_writesOut_38 rfl ?_
    refine gM_X12_outFirst ho0 fl_X12_240 dX12_writesOut_39 ?_
    refine ag_aload_n dX12_writesOut_42 rfl ?_
    refine gM_X12_outMany ho0 fl_X12_243 dX12_writesOut_43 ?_
    refine ag_iadd dX12_writesOut_46 ?_
    refine ag_sipush (v := 500) dX12_writesOut_47 (by decide) ?_
    refine ag_irem dX12_writesOut_50 (by decide) ?_
    refine ag_iload_n dX12_writesOut_51 rfl ?_
    refine ag_chk (fun h4 => ?_)
    refine sM_85 (by decide) h4 dX12_writesOut_52 ?_
    refine ag_ltV (fun V5 => ?_)
    refine ag_aload_n dX12_writesOut_53 rfl ?_
    refine ag_dup dX12_writesOut_54 rfl ?_
    refine gM_X12_outMany ho0 fl_X12_243 dX12_writesOut_55 ?_
    refine ag_iconst (v := 1) dX12_writesOut_58 (by decide) ?_
    refine ag_iadd dX12_writesOut_59 ?_
    refine pM_X12_outMany ho0 fl_X12_243 dX12_writesOut_60 ?_
    refine ag_ltV (fun V6 => ?_)
    exact ag_vrep dX12_writesOut_63
  · refine ag_icmp_ne (tgt := 34) dX12_writesOut_7 (by decide) (fun h7 => ?_) (fun h7 => ?_)
    · exact hk3 V
    · refine ag_aload_n dX12_writesOut_10 rfl ?_
      refine ag_aload_n dX12_writesOut_11 rfl ?_
      refine gM_X12_outFirst ho0 fl_X12_240 dX12_writesOut_12 ?_
      refine ag_iconst (v := 1) dX12_writesOut_15 (by decide) ?_
      refine ag_iadd dX12_writesOut_16 ?_
      refine ag_sipush (v := 500) dX12_writesOut_17 (by decide) ?_
      refine ag_irem dX12_writesOut_20 (by decide) ?_
      refine pM_X12_outFirst ho0 fl_X12_240 dX12_writesOut_21 ?_
      refine ag_ltV (fun V8 => ?_)
      refine ag_aload_n dX12_writesOut_24 rfl ?_
      refine ag_dup dX12_writesOut_25 rfl ?_
      refine gM_X12_outMany ho0 fl_X12_243 dX12_writesOut_26 ?_
      refine ag_iconst (v := 1) dX12_writesOut_29 (by decide) ?_
      refine ag_isub dX12_writesOut_30 ?_
      refine pM_X12_outMany ho0 fl_X12_243 dX12_writesOut_31 ?_
      refine ag_ltV (fun V9 => ?_)
      exact hk3 V9
set_option maxRecDepth 100000 in
set_option maxHeartbeats 4000000 in
theorem c_X12_stores {l : Launch} {D : va_G} {cy : Nat → ClassId} {bs : Nat} {V : HV} (o0 : Nat) (x1 : Int32) (ho0 : o0 < 1) {z : Int32 × HV} (hz : f_X12_stores o0 x1 V = some z) : CM l (aG 57 bs) D (tyL cy) (vwM cy bs) yX12_stores cX12_stores 8 (some .int) 3 61 tvI [.ref (bs + posM 10 o0), .int x1] V z := by
  refine cm_of vwM_D (by decide +kernel) (own := RX12) rfl (Nat.le_of_ble_eq_true rfl) (L := [some (.ref (bs + posM 10 o0)), some (.int x1), none, none, none, none, none, none]) rfl hz (fun Γ => ?_)
  unfold f_X12_stores
  refine ag_aload_n dX12_stores_0 rfl ?_
  refine ag_ivIp (c_X12_f o0 ho0 rfl) vwM_D (vwM_at (kpM_10 _ ho0)) rfl cs_X12_352 rfl rfl (Nat.le_of_ble_eq_true rfl) ⟨by decide, by decide⟩ ⟨Nat.zero_le _, Nat.zero_le _⟩ dX12_stores_1 ?_
  refine ag_ltI (fun v1 => ?_)
  refine ag_istore_n (L' := [some (.ref (bs + posM 10 o0)), some (.int x1), some (.int v1), none, none, none, none, none]) dX12_stores_4 (by decide) rfl ?_
  refine ag_iload_n dX12_stores_5 rfl ?_
  refine ag_dv (j := 33) (L1 := fun _ => [some (.ref (bs + posM 10 o0)), some (.int x1), some (.int v1), none, none, none, none, none]) (st1 := fun v2 => [.int v2]) (ws1 := fun _ => vwM cy bs V) (fun v2 => ?_) (fun k49 hk3 => ?_)
  · refine ag_istore_n (L' := [some (.ref (bs + posM 10 o0)), some (.int x1), some (.int v1), some (.int v2), none, none, none, none]) dX12_stores_33 (by decide) rfl ?_
    refine ag_aload_n dX12_stores_34 rfl ?_
    refine gM_X12_t0 ho0 fl_X12_330 dX12_stores_35 ?_
    refine ag_aload_n dX12_stores_38 rfl ?_
    refine ag_ivIp (c_X12_a o0 ho0 rfl) vwM_D (vwM_at (kpM_10 _ ho0)) rfl cs_X12_346 rfl rfl (Nat.le_of_ble_eq_true rfl) ⟨by decide, by decide⟩ ⟨Nat.zero_le _, Nat.zero_le _⟩ dX12_stores_39 ?_
    refine ag_ltI (fun v4 => ?_)
    refine ag_isIp (c_X12_reg (V 1080 o0 0) v4  rfl) vwM_D cs_X12_307 rfl rfl (Nat.le_of_ble_eq_true rfl) ⟨by decide, by decide⟩ ⟨Nat.zero_le _, Nat.zero_le _⟩ dX12_stores_42 ?_
    refine ag_ltI (fun v5 => ?_)
    refine ag_istore (L' := [some (.ref (bs + posM 10 o0)), some (.int x1), some (.int v1), some (.int v2), some (.int v5), none, none, none]) dX12_stores_45 (by decide) rfl ?_
    refine ag_aload_n dX12_stores_47 rfl ?_
    refine gM_X12_t0 ho0 fl_X12_330 dX12_stores_48 ?_
    refine ag_aload_n dX12_stores_51 rfl ?_
    refine ag_ivIp (c_X12_b o0 ho0 rfl) vwM_D (vwM_at (kpM_10 _ ho0)) rfl cs_X12_349 rfl rfl (Nat.le_of_ble_eq_true rfl) ⟨by decide, by decide⟩ ⟨Nat.zero_le _, Nat.zero_le _⟩ dX12_stores_52 ?_
    refine ag_ltI (fun v6 => ?_)
    refine ag_isIp (c_X12_reg (V 1080 o0 0) v6  rfl) vwM_D cs_X12_307 rfl rfl (Nat.le_of_ble_eq_true rfl) ⟨by decide, by decide⟩ ⟨Nat.zero_le _, Nat.zero_le _⟩ dX12_stores_55 ?_
    refine ag_ltI (fun v7 => ?_)
    refine ag_istore (L' := [some (.ref (bs + posM 10 o0)), some (.int x1), some (.int v1), some (.int v2), some (.int v5), some (.int v7), none, none]) dX12_stores_58 (by decide) rfl ?_
    refine ag_aload_n dX12_stores_60 rfl ?_
    refine ag_iload dX12_stores_61 rfl ?_
    refine ag_iconst (v := 2) dX12_stores_63 (by decide) ?_
    refine ag_iload_n dX12_stores_64 rfl ?_
    refine ag_iload_n dX12_stores_65 rfl ?_
    refine ag_bnd (fun p8 hp8 => ?_)
    refine ag_ivIp (c_X12_refuses o0 v5 2 x1 v2 ho0 hp8) vwM_D (vwM_at (kpM_10 _ ho0)) rfl cs_X12_358 rfl rfl (Nat.le_of_ble_eq_true rfl) ⟨by decide, by decide⟩ ⟨Nat.zero_le _, Nat.zero_le _⟩ dX12_stores_66 ?_
    refine ag_istore (L' := [some (.ref (bs + posM 10 o0)), some (.int x1), some (.int v1), some (.int v2), some (.int v5), some (.int v7), some (.int p8), none]) dX12_stores_69 (by decide) rfl ?_
    refine ag_iload dX12_stores_71 rfl ?_
    refine ag_if_eq (tgt := 79) dX12_stores_73 (by decide) (fun h9 => ?_) (fun h9 => ?_)
    · refine ag_aload_n dX12_stores_79 rfl ?_
      refine ag_iload_n dX12_stores_80 rfl ?_
      refine ag_ivZp (c_X12_isDevice o0 x1 ho0 rfl) vwM_D (vwM_at (kpM_10 _ ho0)) rfl cs_X12_408 rfl rfl (Nat.le_of_ble_eq_true rfl) ⟨by decide, by decide⟩ ⟨Nat.zero_le _, Nat.zero_le _⟩ dX12_stores_81 ?_
      refine ag_ltZ (fun v10 => ?_)
      refine ag_jn0 (j := 94) (L1 := [some (.ref (bs + posM 10 o0)), some (.int x1), some (.int v1), some (.int v2), some (.int v5), some (.int v7), some (.int p8), none]) (st1 := []) (ws1 := vwM cy bs V) (?_) (fun k11 hk12 => ?_)
      · refine ag_aload_n dX12_stores_94 rfl ?_
        refine ag_iload_n dX12_stores_95 rfl ?_
        refine ag_ivZp (c_X12_isDevice o0 x1 ho0 rfl) vwM_D (vwM_at (kpM_10 _ ho0)) rfl cs_X12_408 rfl rfl (Nat.le_of_ble_eq_true rfl) ⟨by decide, by decide⟩ ⟨Nat.zero_le _, Nat.zero_le _⟩ dX12_stores_96 ?_
        refine ag_ltZ (fun v13 => ?_)
        refine ag_jn1 (j := 233) (L1 := fun V14 => [some (.ref (bs + posM 10 o0)), some (.int x1), some (.int v1), some (.int v2), some (.int v5), some (.int v7), some (.int p8), none]) (st1 := fun V14 => []) (ws1 := fun V14 => vwM cy bs V14) (fun V14 => ?_) (fun k15 hk16 => ?_)
        · refine ag_aload_n dX12_stores_233 rfl ?_
          refine ag_bnd (fun p17 hp17 => ?_)
          refine ag_ivVe (c_X12_goesOn o0 ho0 hp17) vwM_D (vwM_at (kpM_10 _ ho0)) rfl cs_X12_369 rfl rfl (Nat.le_of_ble_eq_true rfl) ⟨by decide, by decide⟩ ⟨Nat.zero_le _, Nat.zero_le _⟩ dX12_stores_234 ?_
          refine ag_iconst (v := 0) dX12_stores_237 (by decide) ?_
          exact ag_irep dX12_stores_238
        · refine ag_bif_eq (tgt := 127) dX12_stores_99 (by decide) (fun h18 => ?_) (fun h18 => ?_)
          · refine ag_iload_n dX12_stores_127 rfl ?_
            refine ag_bipush (v := 16) dX12_stores_128 (by decide) ?_
            refine ag_icmp_ne (tgt := 210) dX12_stores_130 (by decide) (fun h19 => ?_) (fun h19 => ?_)
            · refine ag_aload_n dX12_stores_210 rfl ?_
              refine ag_iload_n dX12_stores_211 rfl ?_
              refine ag_iload_n dX12_stores_212 rfl ?_
              refine ag_aload_n dX12_stores_213 rfl ?_
              refine gM_X12_cursor ho0 fl_X12_7 dX12_stores_214 ?_
              refine ag_iload dX12_stores_217 rfl ?_
              refine ag_chk (fun h20 => ?_)
              refine aM_24 (by decide) h20 dX12_stores_219 ?_
              refine ag_bnd (fun p21 hp21 => ?_)
              refine ag_ivVe (c_X12_put o0 x1 v2 (V 2400 0 (v7).toNatClampNeg) ho0 hp21) vwM_D (vwM_at (kpM_10 _ ho0)) rfl cs_X12_268 rfl rfl (Nat.le_of_ble_eq_true rfl) ⟨by decide, by decide⟩ ⟨Nat.zero_le _, Nat.zero_le _⟩ dX12_stores_220 ?_
              refine ag_aload_n dX12_stores_223 rfl ?_
              refine gM_X12_tags ho0 fl_X12_182 dX12_stores_224 ?_
              refine ag_iload_n dX12_stores_227 rfl ?_
              refine ag_bipush (v := 16) dX12_stores_228 (by decide) ?_
              refine ag_idiv dX12_stores_230 (by decide) ?_
              refine ag_iconst (v := 0) dX12_stores_231 (by decide) ?_
              refine ag_chk (fun h22 => ?_)
              refine sM_22 (x := false) (by decide) h22 dX12_stores_232 ?_
              refine ag_ltV (fun V23 => ?_)
              exact hk16 V23
            · refine ag_aload_n dX12_stores_133 rfl ?_
              refine gM_X12_perms ho0 fl_X12_19 dX12_stores_134 ?_
              refine ag_iload dX12_stores_137 rfl ?_
              refine ag_chk (fun h24 => ?_)
              refine aM_27 (by decide) h24 dX12_stores_139 ?_
              refine ag_bipush (v := 16) dX12_stores_140 (by decide) ?_
              refine ag_iand dX12_stores_142 ?_
              refine ag_jn1 (j := 178) (L1 := fun v25 => [some (.ref (bs + posM 10 o0)), some (.int x1), some (.int v1), some (.int v2), some (.int v5), some (.int v7), some (.int p8), none]) (st1 := fun v25 => [.int (b2i v25)]) (ws1 := fun v25 => vwM cy bs V) (fun v25 => ?_) (fun k26 hk27 => ?_)
              · refine ag_istore (L' := [some (.ref (bs + posM 10 o0)), some (.int x1), some (.int v1), some (.int v2), some (.int v5), some (.int v7), some (.int p8), some (.int (b2i v25))]) dX12_stores_178 (by decide) rfl ?_
                refine ag_aload_n dX12_stores_180 rfl ?_
                refine ag_iload_n dX12_stores_181 rfl ?_
                refine ag_iload dX12_stores_182 rfl ?_
                refine ag_aload_n dX12_stores_184 rfl ?_
                refine gM_X12_tag ho0 fl_X12_25 dX12_stores_185 ?_
                refine ag_iload dX12_stores_188 rfl ?_
                refine ag_chk (fun h28 => ?_)
                refine aM_29 (by decide) h28 dX12_stores_190 ?_
                refine ag_dv (j := 204) (L1 := fun _ => [some (.ref (bs + posM 10 o0)), some (.int x1), some (.int v1), some (.int v2), some (.int v5), some (.int v7), some (.int p8), some (.int (b2i v25))]) (st1 := fun v29 => [.int (b2i v29), .int v7, .int x1, .ref (bs + posM 10 o0)]) (ws1 := fun _ => vwM cy bs V) (fun v29 => ?_) (fun k32 hk30 => ?_)
                · refine ag_bnd (fun p31 hp31 => ?_)
                  refine ag_ivVe (c_X12_putCapability o0 x1 v7 v29 ho0 hp31) vwM_D (vwM_at (kpM_10 _ ho0)) rfl cs_X12_303 rfl rfl (Nat.le_of_ble_eq_true rfl) ⟨by decide, by decide⟩ ⟨Nat.zero_le _, Nat.zero_le _⟩ dX12_stores_204 ?_
                  refine ag_goto (tgt := 233) dX12_stores_207 (by decide) ?_
                  refine ag_drop [7] (L' := [some (.ref (bs + posM 10 o0)), some (.int x1), some (.int v1), some (.int v2), some (.int v5), some (.int v7), some (.int p8), none]) rfl ?_
                  exact hk16 p31
                · refine ag_bif_eq_v (tgt := 203) dX12_stores_191 (by decide) (fun h33 => ?_) (fun h33 => ?_)
                  · refine ag_iconst (v := 0) dX12_stores_203 (by decide) ?_
                    exact hk30 false
                  · refine ag_iload dX12_stores_194 rfl ?_
                    refine ag_bif_eq_v (tgt := 203) dX12_stores_196 (by decide) (fun h34 => ?_) (fun h34 => ?_)
                    · refine ag_iconst (v := 0) dX12_stores_203 (by decide) ?_
                      exact hk30 false
                    · refine ag_iconst (v := 1) dX12_stores_199 (by decide) ?_
                      refine ag_goto (tgt := 204) dX12_stores_200 (by decide) ?_
                      exact hk30 true
              · refine ag_jn0 (j := 177) (L1 := [some (.ref (bs + posM 10 o0)), some (.int x1), some (.int v1), some (.int v2), some (.int v5), some (.int v7), some (.int p8), none]) (st1 := []) (ws1 := vwM cy bs V) (?_) (fun k35 hk36 => ?_)
                · refine ag_iconst (v := 0) dX12_stores_177 (by decide) ?_
                  exact hk27 false
                · refine ag_if_eq (tgt := 177) dX12_stores_143 (by decide) (fun h37 => ?_) (fun h37 => ?_)
                  · exact hk36
                  · refine ag_aload_n dX12_stores_146 rfl ?_
                    refine gM_X12_perms ho0 fl_X12_19 dX12_stores_147 ?_
                    refine ag_iload dX12_stores_150 rfl ?_
                    refine ag_chk (fun h38 => ?_)
                    refine aM_27 (by decide) h38 dX12_stores_152 ?_
                    refine ag_bipush (v := 64) dX12_stores_153 (by decide) ?_
                    refine ag_iand dX12_stores_155 ?_
                    refine ag_jn0 (j := 173) (L1 := [some (.ref (bs + posM 10 o0)), some (.int x1), some (.int v1), some (.int v2), some (.int v5), some (.int v7), some (.int p8), none]) (st1 := []) (ws1 := vwM cy bs V) (?_) (fun k39 hk40 => ?_)
                    · refine ag_iconst (v := 1) dX12_stores_173 (by decide) ?_
                      refine ag_goto (tgt := 178) dX12_stores_174 (by decide) ?_
                      exact hk27 true
                    · refine ag_if_ne (tgt := 173) dX12_stores_156 (by decide) (fun h41 => ?_) (fun h41 => ?_)
                      · exact hk40
                      · refine ag_aload_n dX12_stores_159 rfl ?_
                        refine gM_X12_perms ho0 fl_X12_19 dX12_stores_160 ?_
                        refine ag_iload dX12_stores_163 rfl ?_
                        refine ag_chk (fun h42 => ?_)
                        refine aM_27 (by decide) h42 dX12_stores_165 ?_
                        refine ag_sipush (v := 128) dX12_stores_166 (by decide) ?_
                        refine ag_iand dX12_stores_169 ?_
                        refine ag_if_eq (tgt := 177) dX12_stores_170 (by decide) (fun h43 => ?_) (fun h43 => ?_)
                        · exact hk36
                        · exact hk40
          · refine ag_iload_n dX12_stores_102 rfl ?_
            refine ag_ldcw kc_X12_301 dX12_stores_103 ?_
            refine ag_icmp_ne (tgt := 233) dX12_stores_106 (by decide) (fun h44 => ?_) (fun h44 => ?_)
            · exact hk16 V
            · refine ag_aload_n dX12_stores_109 rfl ?_
              refine ag_aload_n dX12_stores_110 rfl ?_
              refine gM_X12_cursor ho0 fl_X12_7 dX12_stores_111 ?_
              refine ag_iload dX12_stores_114 rfl ?_
              refine ag_chk (fun h45 => ?_)
              refine aM_24 (by decide) h45 dX12_stores_116 ?_
              refine ag_sipush (v := 255) dX12_stores_117 (by decide) ?_
              refine ag_iand dX12_stores_120 ?_
              refine ag_bnd (fun p46 hp46 => ?_)
              refine ag_ivVe (c_X12_writesOut o0 ((V 2400 0 (v7).toNatClampNeg) &&& 255) ho0 hp46) vwM_D (vwM_at (kpM_10 _ ho0)) rfl cs_X12_420 rfl rfl (Nat.le_of_ble_eq_true rfl) ⟨by decide, by decide⟩ ⟨Nat.zero_le _, Nat.zero_le _⟩ dX12_stores_121 ?_
              refine ag_goto (tgt := 233) dX12_stores_124 (by decide) ?_
              exact hk16 p46
      · refine ag_bif_eq (tgt := 94) dX12_stores_84 (by decide) (fun h47 => ?_) (fun h47 => ?_)
        · exact hk12
        · refine ag_iload_n dX12_stores_87 rfl ?_
          refine ag_iconst (v := 4) dX12_stores_88 (by decide) ?_
          refine ag_icmp_eq (tgt := 94) dX12_stores_89 (by decide) (fun h48 => ?_) (fun h48 => ?_)
          · exact hk12
          · refine ag_iconst (v := 5) dX12_stores_92 (by decide) ?_
            exact ag_irep dX12_stores_93
    · refine ag_iload dX12_stores_76 rfl ?_
      exact ag_irep dX12_stores_78
  · refine ag_if_ne_v (tgt := 13) dX12_stores_6 (by decide) (fun h50 => ?_) (fun h50 => ?_)
    · refine ag_iload_n dX12_stores_13 rfl ?_
      refine ag_iconst (v := 1) dX12_stores_14 (by decide) ?_
      refine ag_icmp_ne_v (tgt := 22) dX12_stores_15 (by decide) (fun h51 => ?_) (fun h51 => ?_)
      · refine ag_iload_n dX12_stores_22 rfl ?_
        refine ag_iconst (v := 2) dX12_stores_23 (by decide) ?_
        refine ag_icmp_ne_v (tgt := 31) dX12_stores_24 (by decide) (fun h52 => ?_) (fun h52 => ?_)
        · refine ag_bipush (v := 16) dX12_stores_31 (by decide) ?_
          exact hk3 16
        · refine ag_iconst (v := 4) dX12_stores_27 (by decide) ?_
          refine ag_goto (tgt := 33) dX12_stores_28 (by decide) ?_
          exact hk3 4
      · refine ag_iconst (v := 2) dX12_stores_18 (by decide) ?_
        refine ag_goto (tgt := 33) dX12_stores_19 (by decide) ?_
        exact hk3 2
    · refine ag_iconst (v := 1) dX12_stores_9 (by decide) ?_
      refine ag_goto (tgt := 33) dX12_stores_10 (by decide) ?_
      exact hk3 1
set_option maxRecDepth 100000 in
set_option maxHeartbeats 4000000 in
theorem c_X12_asks {l : Launch} {D : va_G} {cy : Nat → ClassId} {bs : Nat} {V : HV} (o0 : Nat) (x1 : Int32) (ho0 : o0 < 1) {z : HV} (hz : f_X12_asks o0 x1 V = some z) : CM l (aG 57 bs) D (tyL cy) (vwM cy bs) yX12_asks cX12_asks 3 none 3 71 tvV [.ref (bs + posM 10 o0), .int x1] V ((), z) := by
  refine cm_of vwM_D (by decide +kernel) (own := RX12) rfl (Nat.le_of_ble_eq_true rfl) (L := [some (.ref (bs + posM 10 o0)), some (.int x1), none]) rfl hz (fun Γ => ?_)
  unfold f_X12_asks
  refine ag_aload_n dX12_asks_0 rfl ?_
  refine ag_ivIp (c_X12_b o0 ho0 rfl) vwM_D (vwM_at (kpM_10 _ ho0)) rfl cs_X12_349 rfl rfl (Nat.le_of_ble_eq_true rfl) ⟨by decide, by decide⟩ ⟨Nat.zero_le _, Nat.zero_le _⟩ dX12_asks_1 ?_
  refine ag_ltI (fun v1 => ?_)
  refine ag_jn1 (j := 287) (L1 := fun V2 => [some (.ref (bs + posM 10 o0)), some (.int x1), none]) (st1 := fun V2 => []) (ws1 := fun V2 => vwM cy bs V2) (fun V2 => ?_) (fun k3 hk4 => ?_)
  · refine ag_aload_n dX12_asks_287 rfl ?_
    refine ag_sipush (v := 582) dX12_asks_288 (by decide) ?_
    refine ag_aload_n dX12_asks_291 rfl ?_
    refine ag_ivIp (c_X12_d o0 ho0 rfl) vwM_D (vwM_at (kpM_10 _ ho0)) rfl cs_X12_343 rfl rfl (Nat.le_of_ble_eq_true rfl) ⟨by decide, by decide⟩ ⟨Nat.zero_le _, Nat.zero_le _⟩ dX12_asks_292 ?_
    refine ag_ltI (fun v5 => ?_)
    refine ag_bnd (fun p6 hp6 => ?_)
    refine ag_ivVe (c_X12_comes o0 582 v5 ho0 hp6) vwM_D (vwM_at (kpM_10 _ ho0)) rfl cs_X12_372 rfl rfl (Nat.le_of_ble_eq_true rfl) ⟨by decide, by decide⟩ ⟨Nat.zero_le _, Nat.zero_le _⟩ dX12_asks_295 ?_
    exact ag_vrep dX12_asks_298
  · refine ag_if (fun h7 => ?_) (fun h7 => ?_)
    · refine ag_tab (off := 56) (tgt := 60) h7 dX12_asks_4 (by decide) (by decide) (by decide) (by decide) ?_
      refine ag_aload_n dX12_asks_60 rfl ?_
      refine ag_aload_n dX12_asks_61 rfl ?_
      refine ag_ivIp (c_X12_d o0 ho0 rfl) vwM_D (vwM_at (kpM_10 _ ho0)) rfl cs_X12_343 rfl rfl (Nat.le_of_ble_eq_true rfl) ⟨by decide, by decide⟩ ⟨Nat.zero_le _, Nat.zero_le _⟩ dX12_asks_62 ?_
      refine ag_ltI (fun v8 => ?_)
      refine ag_aload_n dX12_asks_65 rfl ?_
      refine gM_X12_perms ho0 fl_X12_19 dX12_asks_66 ?_
      refine ag_iload_n dX12_asks_69 rfl ?_
      refine ag_chk (fun h9 => ?_)
      refine aM_27 (by decide) h9 dX12_asks_70 ?_
      refine ag_bnd (fun p10 hp10 => ?_)
      refine ag_ivVe (c_X12_writes o0 v8 (V 2700 0 (x1).toNatClampNeg) ho0 hp10) vwM_D (vwM_at (kpM_10 _ ho0)) rfl cs_X12_366 rfl rfl (Nat.le_of_ble_eq_true rfl) ⟨by decide, by decide⟩ ⟨Nat.zero_le _, Nat.zero_le _⟩ dX12_asks_71 ?_
      exact ag_vrep dX12_asks_74
    · refine ag_if (fun h11 => ?_) (fun h11 => ?_)
      · refine ag_tab (off := 71) (tgt := 75) h11 dX12_asks_4 (by decide) (by decide) (by decide) (by decide) ?_
        refine ag_aload_n dX12_asks_75 rfl ?_
        refine ag_aload_n dX12_asks_76 rfl ?_
        refine ag_ivIp (c_X12_d o0 ho0 rfl) vwM_D (vwM_at (kpM_10 _ ho0)) rfl cs_X12_343 rfl rfl (Nat.le_of_ble_eq_true rfl) ⟨by decide, by decide⟩ ⟨Nat.zero_le _, Nat.zero_le _⟩ dX12_asks_77 ?_
        refine ag_ltI (fun v12 => ?_)
        refine ag_aload_n dX12_asks_80 rfl ?_
        refine gM_X12_type ho0 fl_X12_22 dX12_asks_81 ?_
        refine ag_iload_n dX12_asks_84 rfl ?_
        refine ag_chk (fun h13 => ?_)
        refine aM_28 (by decide) h13 dX12_asks_85 ?_
        refine ag_bnd (fun p14 hp14 => ?_)
        refine ag_ivVe (c_X12_writes o0 v12 (V 2800 0 (x1).toNatClampNeg) ho0 hp14) vwM_D (vwM_at (kpM_10 _ ho0)) rfl cs_X12_366 rfl rfl (Nat.le_of_ble_eq_true rfl) ⟨by decide, by decide⟩ ⟨Nat.zero_le _, Nat.zero_le _⟩ dX12_asks_86 ?_
        exact ag_vrep dX12_asks_89
      · refine ag_if (fun h15 => ?_) (fun h15 => ?_)
        · refine ag_tab (off := 86) (tgt := 90) h15 dX12_asks_4 (by decide) (by decide) (by decide) (by decide) ?_
          refine ag_aload_n dX12_asks_90 rfl ?_
          refine ag_aload_n dX12_asks_91 rfl ?_
          refine ag_ivIp (c_X12_d o0 ho0 rfl) vwM_D (vwM_at (kpM_10 _ ho0)) rfl cs_X12_343 rfl rfl (Nat.le_of_ble_eq_true rfl) ⟨by decide, by decide⟩ ⟨Nat.zero_le _, Nat.zero_le _⟩ dX12_asks_92 ?_
          refine ag_ltI (fun v16 => ?_)
          refine ag_aload_n dX12_asks_95 rfl ?_
          refine gM_X12_base ho0 fl_X12_13 dX12_asks_96 ?_
          refine ag_iload_n dX12_asks_99 rfl ?_
          refine ag_chk (fun h17 => ?_)
          refine aM_25 (by decide) h17 dX12_asks_100 ?_
          refine ag_bnd (fun p18 hp18 => ?_)
          refine ag_ivVe (c_X12_writes o0 v16 (V 2500 0 (x1).toNatClampNeg) ho0 hp18) vwM_D (vwM_at (kpM_10 _ ho0)) rfl cs_X12_366 rfl rfl (Nat.le_of_ble_eq_true rfl) ⟨by decide, by decide⟩ ⟨Nat.zero_le _, Nat.zero_le _⟩ dX12_asks_101 ?_
          exact ag_vrep dX12_asks_104
        · refine ag_if (fun h19 => ?_) (fun h19 => ?_)
          · refine ag_tab (off := 101) (tgt := 105) h19 dX12_asks_4 (by decide) (by decide) (by decide) (by decide) ?_
            refine ag_aload_n dX12_asks_105 rfl ?_
            refine ag_aload_n dX12_asks_106 rfl ?_
            refine ag_ivIp (c_X12_d o0 ho0 rfl) vwM_D (vwM_at (kpM_10 _ ho0)) rfl cs_X12_343 rfl rfl (Nat.le_of_ble_eq_true rfl) ⟨by decide, by decide⟩ ⟨Nat.zero_le _, Nat.zero_le _⟩ dX12_asks_107 ?_
            refine ag_ltI (fun v20 => ?_)
            refine ag_aload_n dX12_asks_110 rfl ?_
            refine gM_X12_top ho0 fl_X12_16 dX12_asks_111 ?_
            refine ag_iload_n dX12_asks_114 rfl ?_
            refine ag_chk (fun h21 => ?_)
            refine aM_26 (by decide) h21 dX12_asks_115 ?_
            refine ag_aload_n dX12_asks_116 rfl ?_
            refine gM_X12_base ho0 fl_X12_13 dX12_asks_117 ?_
            refine ag_iload_n dX12_asks_120 rfl ?_
            refine ag_chk (fun h22 => ?_)
            refine aM_25 (by decide) h22 dX12_asks_121 ?_
            refine ag_isub dX12_asks_122 ?_
            refine ag_bnd (fun p23 hp23 => ?_)
            refine ag_ivVe (c_X12_writes o0 v20 ((V 2600 0 (x1).toNatClampNeg) - (V 2500 0 (x1).toNatClampNeg)) ho0 hp23) vwM_D (vwM_at (kpM_10 _ ho0)) rfl cs_X12_366 rfl rfl (Nat.le_of_ble_eq_true rfl) ⟨by decide, by decide⟩ ⟨Nat.zero_le _, Nat.zero_le _⟩ dX12_asks_123 ?_
            exact ag_vrep dX12_asks_126
          · refine ag_if (fun h24 => ?_) (fun h24 => ?_)
            · refine ag_tab (off := 123) (tgt := 127) h24 dX12_asks_4 (by decide) (by decide) (by decide) (by decide) ?_
              refine ag_aload_n dX12_asks_127 rfl ?_
              refine ag_aload_n dX12_asks_128 rfl ?_
              refine ag_ivIp (c_X12_d o0 ho0 rfl) vwM_D (vwM_at (kpM_10 _ ho0)) rfl cs_X12_343 rfl rfl (Nat.le_of_ble_eq_true rfl) ⟨by decide, by decide⟩ ⟨Nat.zero_le _, Nat.zero_le _⟩ dX12_asks_129 ?_
              refine ag_ltI (fun v25 => ?_)
              refine ag_aload_n dX12_asks_132 rfl ?_
              refine gM_X12_tag ho0 fl_X12_25 dX12_asks_133 ?_
              refine ag_iload_n dX12_asks_136 rfl ?_
              refine ag_chk (fun h26 => ?_)
              refine aM_29 (by decide) h26 dX12_asks_137 ?_
              refine ag_dv (j := 146) (L1 := fun _ => [some (.ref (bs + posM 10 o0)), some (.int x1), none]) (st1 := fun v27 => [.int (b2i v27), .int v25, .ref (bs + posM 10 o0)]) (ws1 := fun _ => vwM cy bs V) (fun v27 => ?_) (fun k30 hk28 => ?_)
              · refine ag_bnd (fun p29 hp29 => ?_)
                refine ag_ivVe (c_X12_writes o0 v25 (b2i v27) ho0 hp29) vwM_D (vwM_at (kpM_10 _ ho0)) rfl cs_X12_366 rfl rfl (Nat.le_of_ble_eq_true rfl) ⟨by decide, by decide⟩ ⟨Nat.zero_le _, Nat.zero_le _⟩ dX12_asks_146 ?_
                exact ag_vrep dX12_asks_149
              · refine ag_bif_eq_v (tgt := 145) dX12_asks_138 (by decide) (fun h31 => ?_) (fun h31 => ?_)
                · refine ag_iconst (v := 0) dX12_asks_145 (by decide) ?_
                  exact hk28 false
                · refine ag_iconst (v := 1) dX12_asks_141 (by decide) ?_
                  refine ag_goto (tgt := 146) dX12_asks_142 (by decide) ?_
                  exact hk28 true
            · refine ag_if (fun h32 => ?_) (fun h32 => ?_)
              · refine ag_tab (off := 146) (tgt := 150) h32 dX12_asks_4 (by decide) (by decide) (by decide) (by decide) ?_
                refine ag_aload_n dX12_asks_150 rfl ?_
                refine ag_aload_n dX12_asks_151 rfl ?_
                refine ag_ivIp (c_X12_d o0 ho0 rfl) vwM_D (vwM_at (kpM_10 _ ho0)) rfl cs_X12_343 rfl rfl (Nat.le_of_ble_eq_true rfl) ⟨by decide, by decide⟩ ⟨Nat.zero_le _, Nat.zero_le _⟩ dX12_asks_152 ?_
                refine ag_ltI (fun v33 => ?_)
                refine ag_aload_n dX12_asks_155 rfl ?_
                refine gM_X12_top ho0 fl_X12_16 dX12_asks_156 ?_
                refine ag_iload_n dX12_asks_159 rfl ?_
                refine ag_chk (fun h34 => ?_)
                refine aM_26 (by decide) h34 dX12_asks_160 ?_
                refine ag_bnd (fun p35 hp35 => ?_)
                refine ag_ivVe (c_X12_writes o0 v33 (V 2600 0 (x1).toNatClampNeg) ho0 hp35) vwM_D (vwM_at (kpM_10 _ ho0)) rfl cs_X12_366 rfl rfl (Nat.le_of_ble_eq_true rfl) ⟨by decide, by decide⟩ ⟨Nat.zero_le _, Nat.zero_le _⟩ dX12_asks_161 ?_
                exact ag_vrep dX12_asks_164
              · refine ag_if (fun h36 => ?_) (fun h36 => ?_)
                · refine ag_tab (off := 161) (tgt := 165) h36 dX12_asks_4 (by decide) (by decide) (by decide) (by decide) ?_
                  refine ag_aload_n dX12_asks_165 rfl ?_
                  refine ag_aload_n dX12_asks_166 rfl ?_
                  refine ag_ivIp (c_X12_d o0 ho0 rfl) vwM_D (vwM_at (kpM_10 _ ho0)) rfl cs_X12_343 rfl rfl (Nat.le_of_ble_eq_true rfl) ⟨by decide, by decide⟩ ⟨Nat.zero_le _, Nat.zero_le _⟩ dX12_asks_167 ?_
                  refine ag_ltI (fun v37 => ?_)
                  refine ag_aload_n dX12_asks_170 rfl ?_
                  refine gM_X12_cursor ho0 fl_X12_7 dX12_asks_171 ?_
                  refine ag_iload_n dX12_asks_174 rfl ?_
                  refine ag_chk (fun h38 => ?_)
                  refine aM_24 (by decide) h38 dX12_asks_175 ?_
                  refine ag_bnd (fun p39 hp39 => ?_)
                  refine ag_ivVe (c_X12_writes o0 v37 (V 2400 0 (x1).toNatClampNeg) ho0 hp39) vwM_D (vwM_at (kpM_10 _ ho0)) rfl cs_X12_366 rfl rfl (Nat.le_of_ble_eq_true rfl) ⟨by decide, by decide⟩ ⟨Nat.zero_le _, Nat.zero_le _⟩ dX12_asks_176 ?_
                  exact ag_vrep dX12_asks_179
                · refine ag_if (fun h40 => ?_) (fun h40 => ?_)
                  · refine ag_tab (off := 176) (tgt := 180) h40 dX12_asks_4 (by decide) (by decide) (by decide) (by decide) ?_
                    refine ag_aload_n dX12_asks_180 rfl ?_
                    refine ag_aload_n dX12_asks_181 rfl ?_
                    refine ag_ivIp (c_X12_d o0 ho0 rfl) vwM_D (vwM_at (kpM_10 _ ho0)) rfl cs_X12_343 rfl rfl (Nat.le_of_ble_eq_true rfl) ⟨by decide, by decide⟩ ⟨Nat.zero_le _, Nat.zero_le _⟩ dX12_asks_182 ?_
                    refine ag_ltI (fun v41 => ?_)
                    refine ag_aload_n dX12_asks_185 rfl ?_
                    refine gM_X12_on ho0 fl_X12_76 dX12_asks_186 ?_
                    refine ag_aload_n dX12_asks_189 rfl ?_
                    refine gM_X12_t0 ho0 fl_X12_330 dX12_asks_190 ?_
                    refine ag_chk (fun h42 => ?_)
                    refine aM_52 (by decide) h42 dX12_asks_193 ?_
                    refine ag_dv (j := 202) (L1 := fun _ => [some (.ref (bs + posM 10 o0)), some (.int x1), none]) (st1 := fun v43 => [.int (b2i v43), .int v41, .ref (bs + posM 10 o0)]) (ws1 := fun _ => vwM cy bs V) (fun v43 => ?_) (fun k46 hk44 => ?_)
                    · refine ag_bnd (fun p45 hp45 => ?_)
                      refine ag_ivVe (c_X12_writes o0 v41 (b2i v43) ho0 hp45) vwM_D (vwM_at (kpM_10 _ ho0)) rfl cs_X12_366 rfl rfl (Nat.le_of_ble_eq_true rfl) ⟨by decide, by decide⟩ ⟨Nat.zero_le _, Nat.zero_le _⟩ dX12_asks_202 ?_
                      exact ag_vrep dX12_asks_205
                    · refine ag_bif_eq_v (tgt := 201) dX12_asks_194 (by decide) (fun h47 => ?_) (fun h47 => ?_)
                      · refine ag_iconst (v := 0) dX12_asks_201 (by decide) ?_
                        exact hk44 false
                      · refine ag_iconst (v := 1) dX12_asks_197 (by decide) ?_
                        refine ag_goto (tgt := 202) dX12_asks_198 (by decide) ?_
                        exact hk44 true
                  · refine ag_if (fun h48 => ?_) (fun h48 => ?_)
                    · refine ag_tab (off := 202) (tgt := 206) h48 dX12_asks_4 (by decide) (by decide) (by decide) (by decide) ?_
                      refine ag_goto (tgt := 287) dX12_asks_206 (by decide) ?_
                      exact hk4 V
                    · refine ag_if (fun h49 => ?_) (fun h49 => ?_)
                      · refine ag_tab (off := 205) (tgt := 209) h49 dX12_asks_4 (by decide) (by decide) (by decide) (by decide) ?_
                        refine ag_aload_n dX12_asks_209 rfl ?_
                        refine gM_X12_tag ho0 fl_X12_25 dX12_asks_210 ?_
                        refine ag_sipush (v := 582) dX12_asks_213 (by decide) ?_
                        refine ag_iconst (v := 0) dX12_asks_216 (by decide) ?_
                        refine ag_chk (fun h50 => ?_)
                        refine sM_29 (x := false) (by decide) h50 dX12_asks_217 ?_
                        refine ag_ltV (fun V51 => ?_)
                        refine ag_goto (tgt := 287) dX12_asks_218 (by decide) ?_
                        exact hk4 V51
                      · refine ag_tabD (tgt := 221) dX12_asks_4 (by have z0 := lv_neT h7 (k := 0) (a := 0) (by decide); have z1 := lv_neT h11 (k := 1) (a := 1) (by decide); have z2 := lv_neT h15 (k := 2) (a := 2) (by decide); have z3 := lv_neT h19 (k := 3) (a := 3) (by decide); have z4 := lv_neT h24 (k := 4) (a := 4) (by decide); have z5 := lv_neT h32 (k := 5) (a := 5) (by decide); have z6 := lv_neT h36 (k := 6) (a := 6) (by decide); have z7 := lv_neT h40 (k := 7) (a := 7) (by decide); have z8 := lv_neT h48 (k := 8) (a := 8) (by decide); have z9 := lv_neT h49 (k := 9) (a := 9) (by decide); omega) (by decide) ?_
                        refine ag_aload_n dX12_asks_221 rfl ?_
                        refine gM_X12_tag ho0 fl_X12_25 dX12_asks_222 ?_
                        refine ag_iload_n dX12_asks_225 rfl ?_
                        refine ag_chk (fun h52 => ?_)
                        refine aM_29 (by decide) h52 dX12_asks_226 ?_
                        refine ag_jn1 (j := 255) (L1 := fun v53 => [some (.ref (bs + posM 10 o0)), some (.int x1), none]) (st1 := fun v53 => [.int (b2i v53)]) (ws1 := fun v53 => vwM cy bs V) (fun v53 => ?_) (fun k54 hk55 => ?_)
                        · refine ag_istore_n (L' := [some (.ref (bs + posM 10 o0)), some (.int x1), some (.int (b2i v53))]) dX12_asks_255 (by decide) rfl ?_
                          refine ag_aload_n dX12_asks_256 rfl ?_
                          refine gM_X12_tag ho0 fl_X12_25 dX12_asks_257 ?_
                          refine ag_sipush (v := 582) dX12_asks_260 (by decide) ?_
                          refine ag_iload_n dX12_asks_263 rfl ?_
                          refine ag_chk (fun h56 => ?_)
                          refine sM_29 (x := v53) (by decide) h56 dX12_asks_264 ?_
                          refine ag_ltV (fun V57 => ?_)
                          refine ag_iload_n dX12_asks_265 rfl ?_
                          refine ag_bif_eq (tgt := 287) dX12_asks_266 (by decide) (fun h58 => ?_) (fun h58 => ?_)
                          · refine ag_drop [2] (L' := [some (.ref (bs + posM 10 o0)), some (.int x1), none]) rfl ?_
                            exact hk4 V57
                          · refine ag_aload_n dX12_asks_269 rfl ?_
                            refine gM_X12_type ho0 fl_X12_22 dX12_asks_270 ?_
                            refine ag_sipush (v := 582) dX12_asks_273 (by decide) ?_
                            refine ag_aload_n dX12_asks_276 rfl ?_
                            refine ag_ivIp (c_X12_b o0 ho0 rfl) vwM_D (vwM_at (kpM_10 _ ho0)) rfl cs_X12_349 rfl rfl (Nat.le_of_ble_eq_true rfl) ⟨by decide, by decide⟩ ⟨Nat.zero_le _, Nat.zero_le _⟩ dX12_asks_277 ?_
                            refine ag_ltI (fun v59 => ?_)
                            refine ag_bipush (v := 9) dX12_asks_280 (by decide) ?_
                            refine ag_isub dX12_asks_282 ?_
                            refine ag_chk (fun h60 => ?_)
                            refine sM_28 (by decide) h60 dX12_asks_283 ?_
                            refine ag_ltV (fun V61 => ?_)
                            refine ag_goto (tgt := 287) dX12_asks_284 (by decide) ?_
                            refine ag_drop [2] (L' := [some (.ref (bs + posM 10 o0)), some (.int x1), none]) rfl ?_
                            exact hk4 V61
                        · refine ag_jn0 (j := 254) (L1 := [some (.ref (bs + posM 10 o0)), some (.int x1), none]) (st1 := []) (ws1 := vwM cy bs V) (?_) (fun k62 hk63 => ?_)
                          · refine ag_iconst (v := 0) dX12_asks_254 (by decide) ?_
                            exact hk55 false
                          · refine ag_bif_eq (tgt := 254) dX12_asks_227 (by decide) (fun h64 => ?_) (fun h64 => ?_)
                            · exact hk63
                            · refine ag_aload_n dX12_asks_230 rfl ?_
                              refine gM_X12_type ho0 fl_X12_22 dX12_asks_231 ?_
                              refine ag_iload_n dX12_asks_234 rfl ?_
                              refine ag_chk (fun h65 => ?_)
                              refine aM_28 (by decide) h65 dX12_asks_235 ?_
                              refine ag_if_ne (tgt := 254) dX12_asks_236 (by decide) (fun h66 => ?_) (fun h66 => ?_)
                              · exact hk63
                              · refine ag_aload_n dX12_asks_239 rfl ?_
                                refine gM_X12_perms ho0 fl_X12_19 dX12_asks_240 ?_
                                refine ag_iload_n dX12_asks_243 rfl ?_
                                refine ag_chk (fun h67 => ?_)
                                refine aM_27 (by decide) h67 dX12_asks_244 ?_
                                refine ag_iconst (v := 4) dX12_asks_245 (by decide) ?_
                                refine ag_iand dX12_asks_246 ?_
                                refine ag_if_eq (tgt := 254) dX12_asks_247 (by decide) (fun h68 => ?_) (fun h68 => ?_)
                                · exact hk63
                                · refine ag_iconst (v := 1) dX12_asks_250 (by decide) ?_
                                  refine ag_goto (tgt := 255) dX12_asks_251 (by decide) ?_
                                  exact hk55 true
set_option maxRecDepth 100000 in
set_option maxHeartbeats 4000000 in
theorem c_X12_bounds {l : Launch} {D : va_G} {cy : Nat → ClassId} {bs : Nat} {V : HV} (o0 : Nat) (x1 : Int32) (x2 : Int64) (x3 : Bool) (ho0 : o0 < 1) {z : HV} (hz : f_X12_bounds o0 x1 x2 x3 V = some z) : CM l (aG 57 bs) D (tyL cy) (vwM cy bs) yX12_bounds cX12_bounds 7 none 1 20 tvV [.ref (bs + posM 10 o0), .int x1, .long x2, .int (b2i x3)] V ((), z) := by
  refine cm_of vwM_D (by decide +kernel) (own := RX12) rfl (Nat.le_of_ble_eq_true rfl) (L := [some (.ref (bs + posM 10 o0)), some (.int x1), some (.long x2), none, some (.int (b2i x3)), none, none]) rfl hz (fun Γ => ?_)
  unfold f_X12_bounds
  refine ag_aload_n dX12_bounds_0 rfl ?_
  refine gM_X12_cursor ho0 fl_X12_7 dX12_bounds_1 ?_
  refine ag_iload_n dX12_bounds_4 rfl ?_
  refine ag_chk (fun h1 => ?_)
  refine aM_24 (by decide) h1 dX12_bounds_5 ?_
  refine ag_isJp (c_X12_plain (V 2400 0 (x1).toNatClampNeg)  rfl) vwM_D cs_X12_260 rfl rfl (Nat.le_of_ble_eq_true rfl) ⟨by decide, by decide⟩ ⟨Nat.zero_le _, Nat.zero_le _⟩ dX12_bounds_6 ?_
  refine ag_ltJ (fun v2 => ?_)
  refine ag_lstore (L' := [some (.ref (bs + posM 10 o0)), some (.int x1), some (.long x2), none, some (.int (b2i x3)), some (.long v2), none]) dX12_bounds_9 (by decide) rfl ?_
  refine ag_aload_n dX12_bounds_11 rfl ?_
  refine gM_X12_base ho0 fl_X12_13 dX12_bounds_12 ?_
  refine ag_sipush (v := 582) dX12_bounds_15 (by decide) ?_
  refine ag_aload_n dX12_bounds_18 rfl ?_
  refine gM_X12_cursor ho0 fl_X12_7 dX12_bounds_19 ?_
  refine ag_iload_n dX12_bounds_22 rfl ?_
  refine ag_chk (fun h3 => ?_)
  refine aM_24 (by decide) h3 dX12_bounds_23 ?_
  refine ag_chk (fun h4 => ?_)
  refine sM_25 (by decide) h4 dX12_bounds_24 ?_
  refine ag_ltV (fun V5 => ?_)
  refine ag_aload_n dX12_bounds_25 rfl ?_
  refine gM_X12_top ho0 fl_X12_16 dX12_bounds_26 ?_
  refine ag_sipush (v := 582) dX12_bounds_29 (by decide) ?_
  refine ag_lload dX12_bounds_32 rfl ?_
  refine ag_lload_n dX12_bounds_34 rfl ?_
  refine ag_ladd dX12_bounds_35 ?_
  refine ag_l2i dX12_bounds_36 ?_
  refine ag_chk (fun h6 => ?_)
  refine sM_26 (by decide) h6 dX12_bounds_37 ?_
  refine ag_ltV (fun V7 => ?_)
  refine ag_aload_n dX12_bounds_38 rfl ?_
  refine gM_X12_tag ho0 fl_X12_25 dX12_bounds_39 ?_
  refine ag_sipush (v := 582) dX12_bounds_42 (by decide) ?_
  refine ag_iload dX12_bounds_45 rfl ?_
  refine ag_jn1 (j := 87) (L1 := fun v8 => [some (.ref (bs + posM 10 o0)), some (.int x1), some (.long x2), none, some (.int (b2i x3)), some (.long v2), none]) (st1 := fun v8 => [.int (b2i v8), .int 582, .ref (bs + posM 29 0)]) (ws1 := fun v8 => vwM cy bs V7) (fun v8 => ?_) (fun k9 hk10 => ?_)
  · refine ag_chk (fun h11 => ?_)
    refine sM_29 (x := v8) (by decide) h11 dX12_bounds_87 ?_
    refine ag_ltV (fun V12 => ?_)
    exact ag_vrep dX12_bounds_88
  · refine ag_jn0 (j := 86) (L1 := [some (.ref (bs + posM 10 o0)), some (.int x1), some (.long x2), none, some (.int (b2i x3)), some (.long v2), none]) (st1 := [.int 582, .ref (bs + posM 29 0)]) (ws1 := vwM cy bs V7) (?_) (fun k13 hk14 => ?_)
    · refine ag_iconst (v := 0) dX12_bounds_86 (by decide) ?_
      exact hk10 false
    · refine ag_bif_eq (tgt := 86) dX12_bounds_47 (by decide) (fun h15 => ?_) (fun h15 => ?_)
      · exact hk14
      · refine ag_lload dX12_bounds_50 rfl ?_
        refine ag_aload_n dX12_bounds_52 rfl ?_
        refine gM_X12_base ho0 fl_X12_13 dX12_bounds_53 ?_
        refine ag_iload_n dX12_bounds_56 rfl ?_
        refine ag_chk (fun h16 => ?_)
        refine aM_25 (by decide) h16 dX12_bounds_57 ?_
        refine ag_isJp (c_X12_plain (V7 2500 0 (x1).toNatClampNeg)  rfl) vwM_D cs_X12_260 rfl rfl (Nat.le_of_ble_eq_true rfl) ⟨by decide, by decide⟩ ⟨Nat.zero_le _, Nat.zero_le _⟩ dX12_bounds_58 ?_
        refine ag_ltJ (fun v17 => ?_)
        refine ag_lcmp dX12_bounds_61 ?_
        refine ag_if_lt (tgt := 86) dX12_bounds_62 (by decide) (fun h18 => ?_) (fun h18 => ?_)
        · exact hk14
        · refine ag_lload dX12_bounds_65 rfl ?_
          refine ag_lload_n dX12_bounds_67 rfl ?_
          refine ag_ladd dX12_bounds_68 ?_
          refine ag_aload_n dX12_bounds_69 rfl ?_
          refine gM_X12_top ho0 fl_X12_16 dX12_bounds_70 ?_
          refine ag_iload_n dX12_bounds_73 rfl ?_
          refine ag_chk (fun h19 => ?_)
          refine aM_26 (by decide) h19 dX12_bounds_74 ?_
          refine ag_isJp (c_X12_plain (V7 2600 0 (x1).toNatClampNeg)  rfl) vwM_D cs_X12_260 rfl rfl (Nat.le_of_ble_eq_true rfl) ⟨by decide, by decide⟩ ⟨Nat.zero_le _, Nat.zero_le _⟩ dX12_bounds_75 ?_
          refine ag_ltJ (fun v20 => ?_)
          refine ag_lcmp dX12_bounds_78 ?_
          refine ag_if_gt (tgt := 86) dX12_bounds_79 (by decide) (fun h21 => ?_) (fun h21 => ?_)
          · exact hk14
          · refine ag_iconst (v := 1) dX12_bounds_82 (by decide) ?_
            refine ag_goto (tgt := 87) dX12_bounds_83 (by decide) ?_
            exact hk10 true
