set_option maxRecDepth 100000 in
set_option maxHeartbeats 4000000 in
theorem c_X4_part {l : Launch} {D : va_G} {cy : Nat → ClassId} {bs kb : Nat} {V : HV} (o0 : Nat) (x1 : Int32) (ho0 : o0 < 1) {z : Int32} (hz : f_X4_part kb o0 x1 V = some z) : CM l (aG 737 bs) D (tyL cy) (vwC cy bs kb) yX4_part cX4_part 2 (some .int) 2 44 tvI [.ref (bs + posC 3 o0), .int x1] V (z, V) := by
  refine cm_of vwC_D (by decide +kernel) (own := RX4) rfl (Nat.le_of_ble_eq_true rfl) (L := [some (.ref (bs + posC 3 o0)), some (.int x1)]) rfl hz (fun Γ => ?_)
  unfold f_X4_part
  refine ag_iload_n dX4_part_0 rfl ?_
  refine ag_if (fun h1 => ?_) (fun h1 => ?_)
  · refine ag_tab (off := 43) (tgt := 44) h1 dX4_part_1 (by decide) (by decide) (by decide) (by decide) ?_
    refine ag_aload_n dX4_part_44 rfl ?_
    refine gC_X4_first ho0 fl_X4_34 dX4_part_45 ?_
    refine ag_bipush (v := 16) dX4_part_48 (by decide) ?_
    refine ag_imul dX4_part_50 ?_
    exact ag_irpp dX4_part_51
  · refine ag_if (fun h2 => ?_) (fun h2 => ?_)
    · refine ag_tab (off := 51) (tgt := 52) h2 dX4_part_1 (by decide) (by decide) (by decide) (by decide) ?_
      refine ag_aload_n dX4_part_52 rfl ?_
      refine gC_X4_objects ho0 fl_X4_37 dX4_part_53 ?_
      exact ag_irpp dX4_part_56
    · refine ag_if (fun h3 => ?_) (fun h3 => ?_)
      · refine ag_tab (off := 56) (tgt := 57) h3 dX4_part_1 (by decide) (by decide) (by decide) (by decide) ?_
        refine ag_aload_n dX4_part_57 rfl ?_
        refine gC_X4_given ho0 fl_X4_40 dX4_part_58 ?_
        refine ag_bipush (v := 16) dX4_part_61 (by decide) ?_
        refine ag_imul dX4_part_63 ?_
        exact ag_irpp dX4_part_64
      · refine ag_if (fun h4 => ?_) (fun h4 => ?_)
        · refine ag_tab (off := 64) (tgt := 65) h4 dX4_part_1 (by decide) (by decide) (by decide) (by decide) ?_
          refine ag_aload_n dX4_part_65 rfl ?_
          refine gC_X4_held ho0 fl_X4_43 dX4_part_66 ?_
          refine ag_bipush (v := 16) dX4_part_69 (by decide) ?_
          refine ag_imul dX4_part_71 ?_
          exact ag_irpp dX4_part_72
        · refine ag_if (fun h5 => ?_) (fun h5 => ?_)
          · refine ag_tab (off := 72) (tgt := 73) h5 dX4_part_1 (by decide) (by decide) (by decide) (by decide) ?_
            refine ag_aload_n dX4_part_73 rfl ?_
            refine ag_ivIp (c_X4_freeBytes o0 ho0 rfl) vwC_D (vwC_at (kpC_3 _ ho0)) rfl cs_X4_75 rfl rfl (Nat.le_of_ble_eq_true rfl) ⟨by decide, by decide⟩ ⟨Nat.zero_le _, Nat.zero_le _⟩ dX4_part_74 ?_
            refine ag_ltI (fun v6 => ?_)
            exact ag_irpp dX4_part_77
          · refine ag_if (fun h7 => ?_) (fun h7 => ?_)
            · refine ag_tab (off := 77) (tgt := 78) h7 dX4_part_1 (by decide) (by decide) (by decide) (by decide) ?_
              refine ag_aload_n dX4_part_78 rfl ?_
              refine gC_X4_sweeps ho0 fl_X4_46 dX4_part_79 ?_
              exact ag_irpp dX4_part_82
            · refine ag_if (fun h8 => ?_) (fun h8 => ?_)
              · refine ag_tab (off := 82) (tgt := 83) h8 dX4_part_1 (by decide) (by decide) (by decide) (by decide) ?_
                refine ag_aload_n dX4_part_83 rfl ?_
                refine gC_X4_next ho0 fl_X4_9 dX4_part_84 ?_
                exact ag_irpp dX4_part_87
              · refine ag_tabD (tgt := 88) dX4_part_1 (by have z0 := lv_neT h1 (k := 0) (a := 0) (by decide); have z1 := lv_neT h2 (k := 1) (a := 1) (by decide); have z2 := lv_neT h3 (k := 2) (a := 2) (by decide); have z3 := lv_neT h4 (k := 3) (a := 3) (by decide); have z4 := lv_neT h5 (k := 4) (a := 4) (by decide); have z5 := lv_neT h7 (k := 5) (a := 5) (by decide); have z6 := lv_neT h8 (k := 6) (a := 6) (by decide); omega) (by decide) ?_
                refine ag_iload_n dX4_part_88 rfl ?_
                refine ag_bipush (v := 8) dX4_part_89 (by decide) ?_
                refine ag_icmp_lt (tgt := 105) dX4_part_91 (by decide) (fun h9 => ?_) (fun h9 => ?_)
                · refine ag_iconst (v := (-1)) dX4_part_105 (by decide) ?_
                  exact ag_irpp dX4_part_106
                · refine ag_aload_n dX4_part_94 rfl ?_
                  refine ag_iload_n dX4_part_95 rfl ?_
                  refine ag_bipush (v := 8) dX4_part_96 (by decide) ?_
                  refine ag_isub dX4_part_98 ?_
                  refine ag_bnd (fun p10 hp10 => ?_)
                  refine ag_ivIp (c_X4_placeOf o0 (x1 - 8) ho0 hp10) vwC_D (vwC_at (kpC_3 _ ho0)) rfl cs_X4_78 rfl rfl (Nat.le_of_ble_eq_true rfl) ⟨by decide, by decide⟩ ⟨Nat.zero_le _, Nat.zero_le _⟩ dX4_part_99 ?_
                  refine ag_goto (tgt := 106) dX4_part_102 (by decide) ?_
                  exact ag_irpp dX4_part_106
set_option maxRecDepth 100000 in
set_option maxHeartbeats 4000000 in
theorem c_X5_hasRoom {l : Launch} {D : va_G} {cy : Nat → ClassId} {bs kb : Nat} {V : HV} (o0 : Nat) (x1 : Int32) (ho0 : o0 < 1) {z : Bool} (hz : f_X5_hasRoom kb o0 x1 V = z) : CM l (aG 737 bs) D (tyL cy) (vwC cy bs kb) yX5_hasRoom cX5_hasRoom 2 (some .boolean) 0 0 tvZ [.ref (bs + posC 4 o0), .int x1] V (z, V) := by
  refine cm_of vwC_D (by decide +kernel) (own := RX5) rfl (Nat.le_of_ble_eq_true rfl) (L := [some (.ref (bs + posC 4 o0)), some (.int x1)]) rfl hz (fun Γ => ?_)
  unfold f_X5_hasRoom
  refine ag_aload_n dX5_hasRoom_0 rfl ?_
  refine gC_X5_length ho0 fl_X5_19 dX5_hasRoom_1 ?_
  refine ag_iload_n dX5_hasRoom_4 rfl ?_
  refine ag_iadd dX5_hasRoom_5 ?_
  refine ag_sipush (v := 5000) dX5_hasRoom_6 (by decide) ?_
  refine ag_dv (j := 17) (L1 := fun _ => [some (.ref (bs + posC 4 o0)), some (.int x1)]) (st1 := fun v1 => [.int (b2i v1)]) (ws1 := fun _ => vwC cy bs kb V) (fun v1 => ?_) (fun k3 hk2 => ?_)
  · exact ag_zrp (x := v1) dX5_hasRoom_17
  · refine ag_icmp_gt_v (tgt := 16) dX5_hasRoom_9 (by decide) (fun h4 => ?_) (fun h4 => ?_)
    · refine ag_iconst (v := 0) dX5_hasRoom_16 (by decide) ?_
      exact hk2 false
    · refine ag_iconst (v := 1) dX5_hasRoom_12 (by decide) ?_
      refine ag_goto (tgt := 17) dX5_hasRoom_13 (by decide) ?_
      exact hk2 true
set_option maxRecDepth 100000 in
set_option maxHeartbeats 4000000 in
theorem c_X5_append {l : Launch} {D : va_G} {cy : Nat → ClassId} {bs kb : Nat} {V : HV} (o0 : Nat) (x1 : Int32) (ho0 : o0 < 1) {z : HV} (hz : f_X5_append kb o0 x1 V = some z) : CM l (aG 737 bs) D (tyL cy) (vwC cy bs kb) yX5_append cX5_append 3 none 0 0 tvV [.ref (bs + posC 4 o0), .int x1] V ((), z) := by
  refine cm_of vwC_D (by decide +kernel) (own := RX5) rfl (Nat.le_of_ble_eq_true rfl) (L := [some (.ref (bs + posC 4 o0)), some (.int x1), none]) rfl hz (fun Γ => ?_)
  unfold f_X5_append
  refine ag_bipush (v := 24) dX5_append_0 (by decide) ?_
  refine ag_istore_n (L' := [some (.ref (bs + posC 4 o0)), some (.int x1), some (.int 24)]) dX5_append_2 (by decide) rfl ?_
  refine ag_jn1 (j := 53) (L1 := fun V3 => [some (.ref (bs + posC 4 o0)), some (.int x1), none]) (st1 := fun V3 => []) (ws1 := fun V3 => vwC cy bs kb V3) (fun V3 => ?_) (fun k1 hk2 => ?_)
  · exact ag_vrep dX5_append_53
  · refine ag_loop2 (F := f_X5_append_L3 o0 x1 k1) (L1 := fun v4 V5 => [some (.ref (bs + posC 4 o0)), some (.int x1), some (.int v4)]) (st1 := fun v4 V5 => []) (ws1 := fun v4 V5 => vwC cy bs kb V5) (fun n6 ih7 v4 V5 => ?_) (fun _ _ => rfl) FU 24 V
    rw [f_X5_append_L3]
    refine ag_iload_n dX5_append_3 rfl ?_
    refine ag_if_lt (tgt := 53) dX5_append_4 (by decide) (fun h8 => ?_) (fun h8 => ?_)
    · refine ag_drop [2] (L' := [some (.ref (bs + posC 4 o0)), some (.int x1), none]) rfl ?_
      exact hk2 V5
    · refine ag_aload_n dX5_append_7 rfl ?_
      refine gC_X5_length ho0 fl_X5_19 dX5_append_8 ?_
      refine ag_jn1 (j := 47) (L1 := fun V9 => [some (.ref (bs + posC 4 o0)), some (.int x1), some (.int v4)]) (st1 := fun V9 => []) (ws1 := fun V9 => vwC cy bs kb V9) (fun V9 => ?_) (fun k10 hk11 => ?_)
      · refine ag_iincL (L' := fun v12 => [some (.ref (bs + posC 4 o0)), some (.int x1), some (.int v12)]) dX5_append_47 (by decide) rfl (by decide) (fun _ => rfl) (fun v12 => ?_)
        refine ag_goto (tgt := 3) dX5_append_50 (by decide) ?_
        exact ih7 v12 V9
      · refine ag_if_lt (tgt := 47) dX5_append_11 (by decide) (fun h13 => ?_) (fun h13 => ?_)
        · exact hk11 V5
        · refine ag_aload_n dX5_append_14 rfl ?_
          refine gC_X5_length ho0 fl_X5_19 dX5_append_15 ?_
          refine ag_sipush (v := 5000) dX5_append_18 (by decide) ?_
          refine ag_icmp_ge (tgt := 47) dX5_append_21 (by decide) (fun h14 => ?_) (fun h14 => ?_)
          · exact hk11 V5
          · refine ag_aload_n dX5_append_24 rfl ?_
            refine gC_X5_tape ho0 fl_X5_11 dX5_append_25 ?_
            refine ag_aload_n dX5_append_28 rfl ?_
            refine gC_X5_length ho0 fl_X5_19 dX5_append_29 ?_
            refine ag_iload_n dX5_append_32 rfl ?_
            refine ag_iload_n dX5_append_33 rfl ?_
            refine ag_iushr dX5_append_34 ?_
            refine ag_i2b dX5_append_35 ?_
            refine ag_chk (fun h15 => ?_)
            refine sC_31 (by decide) h15 dX5_append_36 ?_
            refine ag_ltV (fun V16 => ?_)
            refine ag_aload_n dX5_append_37 rfl ?_
            refine ag_dup dX5_append_38 rfl ?_
            refine gC_X5_length ho0 fl_X5_19 dX5_append_39 ?_
            refine ag_iconst (v := 1) dX5_append_42 (by decide) ?_
            refine ag_iadd dX5_append_43 ?_
            refine pC_X5_length ho0 fl_X5_19 dX5_append_44 ?_
            refine ag_ltV (fun V17 => ?_)
            exact hk11 V17
set_option maxRecDepth 100000 in
set_option maxHeartbeats 4000000 in
theorem c_X5_byteAt {l : Launch} {D : va_G} {cy : Nat → ClassId} {bs kb : Nat} {V : HV} (o0 : Nat) (x1 : Int32) (ho0 : o0 < 1) {z : Int32} (hz : f_X5_byteAt kb o0 x1 V = some z) : CM l (aG 737 bs) D (tyL cy) (vwC cy bs kb) yX5_byteAt cX5_byteAt 2 (some .int) 0 0 tvI [.ref (bs + posC 4 o0), .int x1] V (z, V) := by
  refine cm_of vwC_D (by decide +kernel) (own := RX5) rfl (Nat.le_of_ble_eq_true rfl) (L := [some (.ref (bs + posC 4 o0)), some (.int x1)]) rfl hz (fun Γ => ?_)
  unfold f_X5_byteAt
  refine ag_iload_n dX5_byteAt_0 rfl ?_
  refine ag_if_lt (tgt := 24) dX5_byteAt_1 (by decide) (fun h1 => ?_) (fun h1 => ?_)
  · refine ag_iconst (v := 0) dX5_byteAt_24 (by decide) ?_
    exact ag_irpp dX5_byteAt_25
  · refine ag_iload_n dX5_byteAt_4 rfl ?_
    refine ag_sipush (v := 5000) dX5_byteAt_5 (by decide) ?_
    refine ag_icmp_ge (tgt := 24) dX5_byteAt_8 (by decide) (fun h2 => ?_) (fun h2 => ?_)
    · refine ag_iconst (v := 0) dX5_byteAt_24 (by decide) ?_
      exact ag_irpp dX5_byteAt_25
    · refine ag_aload_n dX5_byteAt_11 rfl ?_
      refine gC_X5_tape ho0 fl_X5_11 dX5_byteAt_12 ?_
      refine ag_iload_n dX5_byteAt_15 rfl ?_
      refine ag_chk (fun h3 => ?_)
      refine aC_31 (by decide) h3 dX5_byteAt_16 ?_
      refine ag_sipush (v := 255) dX5_byteAt_17 (by decide) ?_
      refine ag_iand dX5_byteAt_20 ?_
      refine ag_goto (tgt := 25) dX5_byteAt_21 (by decide) ?_
      exact ag_irpp dX5_byteAt_25
set_option maxRecDepth 100000 in
set_option maxHeartbeats 4000000 in
theorem c_J7_fill_031fb_23 {l : Launch} {D : va_G} {cy : Nat → ClassId} {bs kb : Nat} {V : HV} (o0 : Nat) (x1 : Int32) (ho0 : o0 < 1) {z : HV} (hz : f_J7_fill_031fb_23 kb o0 x1 V = some z) : CM l (aG 737 bs) D (tyL cy) (vwC cy bs kb) yJ7_fill_031fb cJ7_fill_031fb 4 none 0 0 tvV [.ref (bs + posC 23 o0), .int x1] V ((), z) := by
  refine cm_of vwC_D (by decide +kernel) (own := RJ7) rfl (Nat.le_of_ble_eq_true rfl) (L := [some (.ref (bs + posC 23 o0)), some (.int x1), none, none]) rfl hz (fun Γ => ?_)
  unfold f_J7_fill_031fb_23
  refine ag_iconst (v := 0) dJ7_fill_031fb_0 (by decide) ?_
  refine ag_istore_n (L' := [some (.ref (bs + posC 23 o0)), some (.int x1), some (.int 0), none]) dJ7_fill_031fb_1 (by decide) rfl ?_
  refine ag_aload_n dJ7_fill_031fb_2 rfl ?_
  refine nC_23 ho0 dJ7_fill_031fb_3 ?_
  refine ag_ltI (fun v1 => ?_)
  refine ag_istore_n (L' := [some (.ref (bs + posC 23 o0)), some (.int x1), some (.int 0), some (.int v1)]) dJ7_fill_031fb_4 (by decide) rfl ?_
  refine ag_jn1 (j := 20) (L1 := fun V4 => [some (.ref (bs + posC 23 o0)), some (.int x1), none, some (.int v1)]) (st1 := fun V4 => []) (ws1 := fun V4 => vwC cy bs kb V4) (fun V4 => ?_) (fun k2 hk3 => ?_)
  · exact ag_vrep dJ7_fill_031fb_20
  · refine ag_loop2 (F := f_J7_fill_031fb_23_L5 o0 x1 kb v1 k2) (L1 := fun v5 V6 => [some (.ref (bs + posC 23 o0)), some (.int x1), some (.int v5), some (.int v1)]) (st1 := fun v5 V6 => []) (ws1 := fun v5 V6 => vwC cy bs kb V6) (fun n7 ih8 v5 V6 => ?_) (fun _ _ => rfl) FU 0 V
    rw [f_J7_fill_031fb_23_L5]
    refine ag_iload_n dJ7_fill_031fb_5 rfl ?_
    refine ag_iload_n dJ7_fill_031fb_6 rfl ?_
    refine ag_icmp_ge (tgt := 20) dJ7_fill_031fb_7 (by decide) (fun h9 => ?_) (fun h9 => ?_)
    · refine ag_drop [2] (L' := [some (.ref (bs + posC 23 o0)), some (.int x1), none, some (.int v1)]) rfl ?_
      exact hk3 V6
    · refine ag_aload_n dJ7_fill_031fb_10 rfl ?_
      refine ag_iload_n dJ7_fill_031fb_11 rfl ?_
      refine ag_iload_n dJ7_fill_031fb_12 rfl ?_
      refine ag_chk (fun h10 => ?_)
      refine sC_23 ho0 h10 dJ7_fill_031fb_13 ?_
      refine ag_ltV (fun V11 => ?_)
      refine ag_iincL (L' := fun v12 => [some (.ref (bs + posC 23 o0)), some (.int x1), some (.int v12), some (.int v1)]) dJ7_fill_031fb_14 (by decide) rfl (by decide) (fun _ => rfl) (fun v12 => ?_)
      refine ag_goto (tgt := 5) dJ7_fill_031fb_17 (by decide) ?_
      exact ih8 v12 V11
set_option maxRecDepth 100000 in
set_option maxHeartbeats 4000000 in
theorem c_J7_fill_031fb_24 {l : Launch} {D : va_G} {cy : Nat → ClassId} {bs kb : Nat} {V : HV} (o0 : Nat) (x1 : Int32) (ho0 : o0 < 1) {z : HV} (hz : f_J7_fill_031fb_24 kb o0 x1 V = some z) : CM l (aG 737 bs) D (tyL cy) (vwC cy bs kb) yJ7_fill_031fb cJ7_fill_031fb 4 none 0 0 tvV [.ref (bs + posC 24 o0), .int x1] V ((), z) := by
  refine cm_of vwC_D (by decide +kernel) (own := RJ7) rfl (Nat.le_of_ble_eq_true rfl) (L := [some (.ref (bs + posC 24 o0)), some (.int x1), none, none]) rfl hz (fun Γ => ?_)
  unfold f_J7_fill_031fb_24
  refine ag_iconst (v := 0) dJ7_fill_031fb_0 (by decide) ?_
  refine ag_istore_n (L' := [some (.ref (bs + posC 24 o0)), some (.int x1), some (.int 0), none]) dJ7_fill_031fb_1 (by decide) rfl ?_
  refine ag_aload_n dJ7_fill_031fb_2 rfl ?_
  refine nC_24 ho0 dJ7_fill_031fb_3 ?_
  refine ag_ltI (fun v1 => ?_)
  refine ag_istore_n (L' := [some (.ref (bs + posC 24 o0)), some (.int x1), some (.int 0), some (.int v1)]) dJ7_fill_031fb_4 (by decide) rfl ?_
  refine ag_jn1 (j := 20) (L1 := fun V4 => [some (.ref (bs + posC 24 o0)), some (.int x1), none, some (.int v1)]) (st1 := fun V4 => []) (ws1 := fun V4 => vwC cy bs kb V4) (fun V4 => ?_) (fun k2 hk3 => ?_)
  · exact ag_vrep dJ7_fill_031fb_20
  · refine ag_loop2 (F := f_J7_fill_031fb_24_L5 o0 x1 kb v1 k2) (L1 := fun v5 V6 => [some (.ref (bs + posC 24 o0)), some (.int x1), some (.int v5), some (.int v1)]) (st1 := fun v5 V6 => []) (ws1 := fun v5 V6 => vwC cy bs kb V6) (fun n7 ih8 v5 V6 => ?_) (fun _ _ => rfl) FU 0 V
    rw [f_J7_fill_031fb_24_L5]
    refine ag_iload_n dJ7_fill_031fb_5 rfl ?_
    refine ag_iload_n dJ7_fill_031fb_6 rfl ?_
    refine ag_icmp_ge (tgt := 20) dJ7_fill_031fb_7 (by decide) (fun h9 => ?_) (fun h9 => ?_)
    · refine ag_drop [2] (L' := [some (.ref (bs + posC 24 o0)), some (.int x1), none, some (.int v1)]) rfl ?_
      exact hk3 V6
    · refine ag_aload_n dJ7_fill_031fb_10 rfl ?_
      refine ag_iload_n dJ7_fill_031fb_11 rfl ?_
      refine ag_iload_n dJ7_fill_031fb_12 rfl ?_
      refine ag_chk (fun h10 => ?_)
      refine sC_24 ho0 h10 dJ7_fill_031fb_13 ?_
      refine ag_ltV (fun V11 => ?_)
      refine ag_iincL (L' := fun v12 => [some (.ref (bs + posC 24 o0)), some (.int x1), some (.int v12), some (.int v1)]) dJ7_fill_031fb_14 (by decide) rfl (by decide) (fun _ => rfl) (fun v12 => ?_)
      refine ag_goto (tgt := 5) dJ7_fill_031fb_17 (by decide) ?_
      exact ih8 v12 V11
set_option maxRecDepth 100000 in
set_option maxHeartbeats 4000000 in
theorem c_X8_reset {l : Launch} {D : va_G} {cy : Nat → ClassId} {bs kb : Nat} {V : HV} (o0 : Nat) (ho0 : o0 < 1) {z : HV} (hz : f_X8_reset kb o0 V = some z) : CM l (aG 737 bs) D (tyL cy) (vwC cy bs kb) yX8_reset cX8_reset 1 none 1 23 tvV [.ref (bs + posC 6 o0)] V ((), z) := by
  refine cm_of vwC_D (by decide +kernel) (own := RX8) rfl (Nat.le_of_ble_eq_true rfl) (L := [some (.ref (bs + posC 6 o0))]) rfl hz (fun Γ => ?_)
  unfold f_X8_reset
  refine ag_aload_n dX8_reset_0 rfl ?_
  refine gC_X8_bytes ho0 fl_X8_9 dX8_reset_1 ?_
  refine ag_iconst (v := 0) dX8_reset_4 (by decide) ?_
  refine ag_bnd (fun p1 hp1 => ?_)
  refine ag_isVe (c_J7_fill_031fb_23 0 0 (by decide) hp1) vwC_D cs_X8_18 rfl rfl (Nat.le_of_ble_eq_true rfl) ⟨by decide, by decide⟩ ⟨Nat.zero_le _, Nat.zero_le _⟩ dX8_reset_5 ?_
  refine ag_aload_n dX8_reset_8 rfl ?_
  refine gC_X8_marks ho0 fl_X8_15 dX8_reset_9 ?_
  refine ag_iconst (v := 0) dX8_reset_12 (by decide) ?_
  refine ag_bnd (fun p2 hp2 => ?_)
  refine ag_isVe (c_J7_fill_031fb_24 0 0 (by decide) hp2) vwC_D cs_X8_18 rfl rfl (Nat.le_of_ble_eq_true rfl) ⟨by decide, by decide⟩ ⟨Nat.zero_le _, Nat.zero_le _⟩ dX8_reset_13 ?_
  exact ag_vrep dX8_reset_16
set_option maxRecDepth 100000 in
set_option maxHeartbeats 4000000 in
theorem c_X6_reset {l : Launch} {D : va_G} {cy : Nat → ClassId} {bs kb : Nat} {V : HV} (o0 : Nat) (ho0 : o0 < 2) {z : HV} (hz : f_X6_reset kb o0 V = z) : CM l (aG 737 bs) D (tyL cy) (vwC cy bs kb) yX6_reset cX6_reset 1 none 0 0 tvV [.ref (bs + posC 5 o0)] V ((), z) := by
  refine cm_of vwC_D (by decide +kernel) (own := RX6) rfl (Nat.le_of_ble_eq_true rfl) (L := [some (.ref (bs + posC 5 o0))]) rfl hz (fun Γ => ?_)
  unfold f_X6_reset
  refine ag_aload_n dX6_reset_0 rfl ?_
  refine ag_iconst (v := 0) dX6_reset_1 (by decide) ?_
  refine pC_X6_first ho0 fl_X6_15 dX6_reset_2 ?_
  refine ag_ltV (fun V1 => ?_)
  refine ag_aload_n dX6_reset_5 rfl ?_
  refine ag_iconst (v := 0) dX6_reset_6 (by decide) ?_
  refine pC_X6_length ho0 fl_X6_19 dX6_reset_7 ?_
  refine ag_ltV (fun V2 => ?_)
  exact ag_vre dX6_reset_10
set_option maxRecDepth 100000 in
set_option maxHeartbeats 4000000 in
theorem c_X10_reset {l : Launch} {D : va_G} {cy : Nat → ClassId} {bs kb : Nat} {V : HV} (o0 : Nat) (ho0 : o0 < 1) {z : HV} (hz : f_X10_reset kb o0 V = some z) : CM l (aG 737 bs) D (tyL cy) (vwC cy bs kb) yX10_reset cX10_reset 1 none 2 44 tvV [.ref (bs + posC 8 o0)] V ((), z) := by
  refine cm_of vwC_D (by decide +kernel) (own := RX10) rfl (Nat.le_of_ble_eq_true rfl) (L := [some (.ref (bs + posC 8 o0))]) rfl hz (fun Γ => ?_)
  unfold f_X10_reset
  refine ag_aload_n dX10_reset_0 rfl ?_
  refine gC_X10_store ho0 fl_X10_49 dX10_reset_1 ?_
  refine ag_bnd (fun p1 hp1 => ?_)
  refine ag_ivVe (c_X8_reset 0 (by decide) hp1) vwC_D (vwC_at (kpC_6 _ (by decide))) rfl cs_X10_62 rfl rfl (Nat.le_of_ble_eq_true rfl) ⟨by decide, by decide⟩ ⟨Nat.zero_le _, Nat.zero_le _⟩ dX10_reset_4 ?_
  refine ag_aload_n dX10_reset_7 rfl ?_
  refine gC_X10_heap ho0 fl_X10_56 dX10_reset_8 ?_
  refine ag_iconst (v := 0) dX10_reset_11 (by decide) ?_
  refine ag_bnd (fun p2 hp2 => ?_)
  refine ag_ivVe (c_X4_reset 0 0 (by decide) hp2) vwC_D (vwC_at (kpC_3 _ (by decide))) rfl cs_X10_65 rfl rfl (Nat.le_of_ble_eq_true rfl) ⟨by decide, by decide⟩ ⟨Nat.zero_le _, Nat.zero_le _⟩ dX10_reset_12 ?_
  refine ag_aload_n dX10_reset_15 rfl ?_
  refine gC_X10_input ho0 fl_X10_14 dX10_reset_16 ?_
  refine ag_ivVe (c_X6_reset 0 (by decide) rfl) vwC_D (vwC_at (kpC_5 _ (by decide))) rfl cs_X10_67 rfl rfl (Nat.le_of_ble_eq_true rfl) ⟨by decide, by decide⟩ ⟨Nat.zero_le _, Nat.zero_le _⟩ dX10_reset_19 ?_
  refine ag_ltV (fun V3 => ?_)
  refine ag_aload_n dX10_reset_22 rfl ?_
  refine gC_X10_output ho0 fl_X10_20 dX10_reset_23 ?_
  refine ag_ivVe (c_X6_reset 1 (by decide) rfl) vwC_D (vwC_at (kpC_5 _ (by decide))) rfl cs_X10_67 rfl rfl (Nat.le_of_ble_eq_true rfl) ⟨by decide, by decide⟩ ⟨Nat.zero_le _, Nat.zero_le _⟩ dX10_reset_26 ?_
  refine ag_ltV (fun V4 => ?_)
  refine ag_aload_n dX10_reset_29 rfl ?_
  refine ag_iconst (v := 0) dX10_reset_30 (by decide) ?_
  refine pC_X10_compartmentCount ho0 fl_X10_68 dX10_reset_31 ?_
  refine ag_ltV (fun V5 => ?_)
  refine ag_aload_n dX10_reset_34 rfl ?_
  refine ag_iconst (v := 0) dX10_reset_35 (by decide) ?_
  refine pC_X10_taskCount ho0 fl_X10_71 dX10_reset_36 ?_
  refine ag_ltV (fun V6 => ?_)
  refine ag_aload_n dX10_reset_39 rfl ?_
  refine ag_iconst (v := 0) dX10_reset_40 (by decide) ?_
  refine pC_X10_booted (x := false) ho0 fl_X10_74 dX10_reset_41 ?_
  refine ag_ltV (fun V7 => ?_)
  refine ag_aload_n dX10_reset_44 rfl ?_
  refine ag_iconst (v := 0) dX10_reset_45 (by decide) ?_
  refine pC_X10_time ho0 fl_X10_78 dX10_reset_46 ?_
  refine ag_ltV (fun V8 => ?_)
  refine ag_aload_n dX10_reset_49 rfl ?_
  refine ag_iconst (v := (-1)) dX10_reset_50 (by decide) ?_
  refine pC_X10_current ho0 fl_X10_42 dX10_reset_51 ?_
  refine ag_ltV (fun V9 => ?_)
  refine ag_aload_n dX10_reset_54 rfl ?_
  refine ag_iconst (v := 0) dX10_reset_55 (by decide) ?_
  refine pC_X10_ran ho0 fl_X10_81 dX10_reset_56 ?_
  refine ag_ltV (fun V10 => ?_)
  refine ag_aload_n dX10_reset_59 rfl ?_
  refine ag_iconst (v := 0) dX10_reset_60 (by decide) ?_
  refine pC_X10_faults ho0 fl_X10_84 dX10_reset_61 ?_
  refine ag_ltV (fun V11 => ?_)
  refine ag_aload_n dX10_reset_64 rfl ?_
  refine ag_iconst (v := 0) dX10_reset_65 (by decide) ?_
  refine pC_X10_calls ho0 fl_X10_87 dX10_reset_66 ?_
  refine ag_ltV (fun V12 => ?_)
  refine ag_aload_n dX10_reset_69 rfl ?_
  refine ag_iconst (v := 0) dX10_reset_70 (by decide) ?_
  refine pC_X10_services ho0 fl_X10_90 dX10_reset_71 ?_
  refine ag_ltV (fun V13 => ?_)
  refine ag_aload_n dX10_reset_74 rfl ?_
  refine ag_iconst (v := 0) dX10_reset_75 (by decide) ?_
  refine pC_X10_switches ho0 fl_X10_93 dX10_reset_76 ?_
  refine ag_ltV (fun V14 => ?_)
  exact ag_vrep dX10_reset_79
set_option maxRecDepth 100000 in
set_option maxHeartbeats 4000000 in
theorem c_X5_fail {l : Launch} {D : va_G} {cy : Nat → ClassId} {bs kb : Nat} {V : HV} (o0 : Nat) (x1 : Int32) (x2 : Int32) (ho0 : o0 < 1) {z : HV} (hz : f_X5_fail kb o0 x1 x2 V = z) : CM l (aG 737 bs) D (tyL cy) (vwC cy bs kb) yX5_fail cX5_fail 3 none 0 0 tvV [.ref (bs + posC 4 o0), .int x1, .int x2] V ((), z) := by
  refine cm_of vwC_D (by decide +kernel) (own := RX5) rfl (Nat.le_of_ble_eq_true rfl) (L := [some (.ref (bs + posC 4 o0)), some (.int x1), some (.int x2)]) rfl hz (fun Γ => ?_)
  unfold f_X5_fail
  refine ag_aload_n dX5_fail_0 rfl ?_
  refine gC_X5_fault ho0 fl_X5_33 dX5_fail_1 ?_
  refine ag_if_ne (tgt := 17) dX5_fail_4 (by decide) (fun h1 => ?_) (fun h1 => ?_)
  · exact ag_vre dX5_fail_17
  · refine ag_aload_n dX5_fail_7 rfl ?_
    refine ag_iload_n dX5_fail_8 rfl ?_
    refine pC_X5_fault ho0 fl_X5_33 dX5_fail_9 ?_
    refine ag_ltV (fun V2 => ?_)
    refine ag_aload_n dX5_fail_12 rfl ?_
    refine ag_iload_n dX5_fail_13 rfl ?_
    refine pC_X5_place ho0 fl_X5_15 dX5_fail_14 ?_
    refine ag_ltV (fun V3 => ?_)
    exact ag_vre dX5_fail_17
set_option maxRecDepth 100000 in
set_option maxHeartbeats 4000000 in
theorem c_X5_number {l : Launch} {D : va_G} {cy : Nat → ClassId} {bs kb : Nat} {V : HV} (o0 : Nat) (x1 : Int32) (x2 : Int32) (x3 : Int32) (ho0 : o0 < 1) {z : Int32 × HV} (hz : f_X5_number kb o0 x1 x2 x3 V = some z) : CM l (aG 737 bs) D (tyL cy) (vwC cy bs kb) yX5_number cX5_number 5 (some .int) 1 22 tvI [.ref (bs + posC 4 o0), .int x1, .int x2, .int x3] V z := by
  refine cm_of vwC_D (by decide +kernel) (own := RX5) rfl (Nat.le_of_ble_eq_true rfl) (L := [some (.ref (bs + posC 4 o0)), some (.int x1), some (.int x2), some (.int x3), none]) rfl hz (fun Γ => ?_)
  unfold f_X5_number
  refine ag_aload_n dX5_number_0 rfl ?_
  refine gC_X5_fault ho0 fl_X5_33 dX5_number_1 ?_
  refine ag_if_eq (tgt := 9) dX5_number_4 (by decide) (fun h1 => ?_) (fun h1 => ?_)
  · refine ag_aload_n dX5_number_9 rfl ?_
    refine gC_X5_at ho0 fl_X5_27 dX5_number_10 ?_
    refine ag_iload_n dX5_number_13 rfl ?_
    refine ag_iadd dX5_number_14 ?_
    refine ag_aload_n dX5_number_15 rfl ?_
    refine gC_X5_end ho0 fl_X5_30 dX5_number_16 ?_
    refine ag_icmp_le (tgt := 33) dX5_number_19 (by decide) (fun h2 => ?_) (fun h2 => ?_)
    · refine ag_iload_n dX5_number_33 rfl ?_
      refine ag_iconst (v := 2) dX5_number_34 (by decide) ?_
      refine ag_jn1 (j := 72) (L1 := fun v3 => [some (.ref (bs + posC 4 o0)), some (.int x1), some (.int x2), some (.int x3), none]) (st1 := fun v3 => [.int v3]) (ws1 := fun v3 => vwC cy bs kb V) (fun v3 => ?_) (fun k4 hk5 => ?_)
      · refine ag_istore (L' := [some (.ref (bs + posC 4 o0)), some (.int x1), some (.int x2), some (.int x3), some (.int v3)]) dX5_number_72 (by decide) rfl ?_
        refine ag_iload dX5_number_74 rfl ?_
        refine ag_iload_n dX5_number_76 rfl ?_
        refine ag_jn0 (j := 86) (L1 := [some (.ref (bs + posC 4 o0)), some (.int x1), some (.int x2), some (.int x3), some (.int v3)]) (st1 := []) (ws1 := vwC cy bs kb V) (?_) (fun k6 hk7 => ?_)
        · refine ag_aload_n dX5_number_86 rfl ?_
          refine ag_iconst (v := 2) dX5_number_87 (by decide) ?_
          refine ag_aload_n dX5_number_88 rfl ?_
          refine gC_X5_at ho0 fl_X5_27 dX5_number_89 ?_
          refine ag_ivVe (c_X5_fail o0 2 (V 402 o0 0) ho0 rfl) vwC_D (vwC_at (kpC_4 _ ho0)) rfl cs_X5_43 rfl rfl (Nat.le_of_ble_eq_true rfl) ⟨by decide, by decide⟩ ⟨Nat.zero_le _, Nat.zero_le _⟩ dX5_number_92 ?_
          refine ag_ltV (fun V8 => ?_)
          refine ag_iload_n dX5_number_95 rfl ?_
          exact ag_irep dX5_number_96
        · refine ag_icmp_lt (tgt := 86) dX5_number_77 (by decide) (fun h9 => ?_) (fun h9 => ?_)
          · exact hk7
          · refine ag_iload dX5_number_80 rfl ?_
            refine ag_iload_n dX5_number_82 rfl ?_
            refine ag_icmp_le (tgt := 97) dX5_number_83 (by decide) (fun h10 => ?_) (fun h10 => ?_)
            · refine ag_aload_n dX5_number_97 rfl ?_
              refine ag_dup dX5_number_98 rfl ?_
              refine gC_X5_at ho0 fl_X5_27 dX5_number_99 ?_
              refine ag_iload_n dX5_number_102 rfl ?_
              refine ag_iadd dX5_number_103 ?_
              refine pC_X5_at ho0 fl_X5_27 dX5_number_104 ?_
              refine ag_ltV (fun V11 => ?_)
              refine ag_iload dX5_number_107 rfl ?_
              exact ag_irep dX5_number_109
            · exact hk7
      · refine ag_icmp_ne (tgt := 64) dX5_number_35 (by decide) (fun h12 => ?_) (fun h12 => ?_)
        · refine ag_aload_n dX5_number_64 rfl ?_
          refine ag_aload_n dX5_number_65 rfl ?_
          refine gC_X5_at ho0 fl_X5_27 dX5_number_66 ?_
          refine ag_bnd (fun p13 hp13 => ?_)
          refine ag_ivIp (c_X5_byteAt o0 (V 402 o0 0) ho0 hp13) vwC_D (vwC_at (kpC_4 _ ho0)) rfl cs_X5_53 rfl rfl (Nat.le_of_ble_eq_true rfl) ⟨by decide, by decide⟩ ⟨Nat.zero_le _, Nat.zero_le _⟩ dX5_number_69 ?_
          exact hk5 p13
        · refine ag_aload_n dX5_number_38 rfl ?_
          refine ag_aload_n dX5_number_39 rfl ?_
          refine gC_X5_at ho0 fl_X5_27 dX5_number_40 ?_
          refine ag_bnd (fun p14 hp14 => ?_)
          refine ag_ivIp (c_X5_byteAt o0 (V 402 o0 0) ho0 hp14) vwC_D (vwC_at (kpC_4 _ ho0)) rfl cs_X5_53 rfl rfl (Nat.le_of_ble_eq_true rfl) ⟨by decide, by decide⟩ ⟨Nat.zero_le _, Nat.zero_le _⟩ dX5_number_43 ?_
          refine ag_sipush (v := 256) dX5_number_46 (by decide) ?_
          refine ag_aload_n dX5_number_49 rfl ?_
          refine ag_aload_n dX5_number_50 rfl ?_
          refine gC_X5_at ho0 fl_X5_27 dX5_number_51 ?_
          refine ag_iconst (v := 1) dX5_number_54 (by decide) ?_
          refine ag_iadd dX5_number_55 ?_
          refine ag_bnd (fun p15 hp15 => ?_)
          refine ag_ivIp (c_X5_byteAt o0 ((V 402 o0 0) + 1) ho0 hp15) vwC_D (vwC_at (kpC_4 _ ho0)) rfl cs_X5_53 rfl rfl (Nat.le_of_ble_eq_true rfl) ⟨by decide, by decide⟩ ⟨Nat.zero_le _, Nat.zero_le _⟩ dX5_number_56 ?_
          refine ag_imul dX5_number_59 ?_
          refine ag_iadd dX5_number_60 ?_
          refine ag_goto (tgt := 72) dX5_number_61 (by decide) ?_
          exact hk5 (p14 + (256 * p15))
    · refine ag_aload_n dX5_number_22 rfl ?_
      refine ag_iconst (v := 1) dX5_number_23 (by decide) ?_
      refine ag_aload_n dX5_number_24 rfl ?_
      refine gC_X5_end ho0 fl_X5_30 dX5_number_25 ?_
      refine ag_ivVe (c_X5_fail o0 1 (V 403 o0 0) ho0 rfl) vwC_D (vwC_at (kpC_4 _ ho0)) rfl cs_X5_43 rfl rfl (Nat.le_of_ble_eq_true rfl) ⟨by decide, by decide⟩ ⟨Nat.zero_le _, Nat.zero_le _⟩ dX5_number_28 ?_
      refine ag_ltV (fun V16 => ?_)
      refine ag_iload_n dX5_number_31 rfl ?_
      exact ag_irep dX5_number_32
  · refine ag_iload_n dX5_number_7 rfl ?_
    exact ag_irep dX5_number_8
set_option maxRecDepth 100000 in
set_option maxHeartbeats 4000000 in
theorem c_X5_readGlobalsPerms {l : Launch} {D : va_G} {cy : Nat → ClassId} {bs kb : Nat} {V : HV} (o0 : Nat) (ho0 : o0 < 1) {z : HV} (hz : f_X5_readGlobalsPerms kb o0 V = some z) : CM l (aG 737 bs) D (tyL cy) (vwC cy bs kb) yX5_readGlobalsPerms cX5_readGlobalsPerms 3 none 2 46 tvV [.ref (bs + posC 4 o0)] V ((), z) := by
  refine cm_of vwC_D (by decide +kernel) (own := RX5) rfl (Nat.le_of_ble_eq_true rfl) (L := [some (.ref (bs + posC 4 o0)), none, none]) rfl hz (fun Γ => ?_)
  unfold f_X5_readGlobalsPerms
  refine ag_bipush (v := 27) dX5_readGlobalsPerms_0 (by decide) ?_
  refine ag_istore_n (L' := [some (.ref (bs + posC 4 o0)), some (.int 27), none]) dX5_readGlobalsPerms_2 (by decide) rfl ?_
  refine ag_aload_n dX5_readGlobalsPerms_3 rfl ?_
  refine ag_iconst (v := 1) dX5_readGlobalsPerms_4 (by decide) ?_
  refine ag_iconst (v := 1) dX5_readGlobalsPerms_5 (by decide) ?_
  refine ag_iload_n dX5_readGlobalsPerms_6 rfl ?_
  refine ag_bnd (fun p1 hp1 => ?_)
  refine ag_ivIe (c_X5_number o0 1 1 27 ho0 hp1) vwC_D (vwC_at (kpC_4 _ ho0)) rfl cs_X5_57 rfl rfl (Nat.le_of_ble_eq_true rfl) ⟨by decide, by decide⟩ ⟨Nat.zero_le _, Nat.zero_le _⟩ dX5_readGlobalsPerms_7 ?_
  refine ag_ltI (fun v2 => ?_)
  refine ag_istore_n (L' := [some (.ref (bs + posC 4 o0)), some (.int 27), some (.int v2)]) dX5_readGlobalsPerms_10 (by decide) rfl ?_
  refine ag_iload_n dX5_readGlobalsPerms_11 rfl ?_
  refine ag_iload_n dX5_readGlobalsPerms_12 rfl ?_
  refine ag_iconst (v := (-1)) dX5_readGlobalsPerms_13 (by decide) ?_
  refine ag_ixor dX5_readGlobalsPerms_14 ?_
  refine ag_iand dX5_readGlobalsPerms_15 ?_
  refine ag_if_eq (tgt := 30) dX5_readGlobalsPerms_16 (by decide) (fun h3 => ?_) (fun h3 => ?_)
  · exact ag_vrep dX5_readGlobalsPerms_30
  · refine ag_aload_n dX5_readGlobalsPerms_19 rfl ?_
    refine ag_iconst (v := 2) dX5_readGlobalsPerms_20 (by decide) ?_
    refine ag_aload_n dX5_readGlobalsPerms_21 rfl ?_
    refine gC_X5_at ho0 fl_X5_27 dX5_readGlobalsPerms_22 ?_
    refine ag_iconst (v := 1) dX5_readGlobalsPerms_25 (by decide) ?_
    refine ag_isub dX5_readGlobalsPerms_26 ?_
    refine ag_ivVe (c_X5_fail o0 2 ((p1.2 402 o0 0) - 1) ho0 rfl) vwC_D (vwC_at (kpC_4 _ ho0)) rfl cs_X5_43 rfl rfl (Nat.le_of_ble_eq_true rfl) ⟨by decide, by decide⟩ ⟨Nat.zero_le _, Nat.zero_le _⟩ dX5_readGlobalsPerms_27 ?_
    refine ag_ltV (fun V4 => ?_)
    exact ag_vrep dX5_readGlobalsPerms_30
set_option maxRecDepth 100000 in
set_option maxHeartbeats 4000000 in
theorem c_X5_readImport {l : Launch} {D : va_G} {cy : Nat → ClassId} {bs kb : Nat} {V : HV} (o0 : Nat) (ho0 : o0 < 1) {z : HV} (hz : f_X5_readImport kb o0 V = some z) : CM l (aG 737 bs) D (tyL cy) (vwC cy bs kb) yX5_readImport cX5_readImport 1 none 3 68 tvV [.ref (bs + posC 4 o0)] V ((), z) := by
  refine cm_of vwC_D (by decide +kernel) (own := RX5) rfl (Nat.le_of_ble_eq_true rfl) (L := [some (.ref (bs + posC 4 o0))]) rfl hz (fun Γ => ?_)
  unfold f_X5_readImport
  refine ag_aload_n dX5_readImport_0 rfl ?_
  refine ag_iconst (v := 1) dX5_readImport_1 (by decide) ?_
  refine ag_iconst (v := 0) dX5_readImport_2 (by decide) ?_
  refine ag_iconst (v := 4) dX5_readImport_3 (by decide) ?_
  refine ag_bnd (fun p1 hp1 => ?_)
  refine ag_ivIe (c_X5_number o0 1 0 4 ho0 hp1) vwC_D (vwC_at (kpC_4 _ ho0)) rfl cs_X5_57 rfl rfl (Nat.le_of_ble_eq_true rfl) ⟨by decide, by decide⟩ ⟨Nat.zero_le _, Nat.zero_le _⟩ dX5_readImport_4 ?_
  refine ag_if (fun h2 => ?_) (fun h2 => ?_)
  · refine ag_tab (off := 29) (tgt := 36) h2 dX5_readImport_7 (by decide) (by decide) (by decide) (by decide) ?_
    refine ag_aload_n dX5_readImport_36 rfl ?_
    refine ag_iconst (v := 1) dX5_readImport_37 (by decide) ?_
    refine ag_iconst (v := 0) dX5_readImport_38 (by decide) ?_
    refine ag_sipush (v := 255) dX5_readImport_39 (by decide) ?_
    refine ag_bnd (fun p3 hp3 => ?_)
    refine ag_ivIe (c_X5_number o0 1 0 255 ho0 hp3) vwC_D (vwC_at (kpC_4 _ ho0)) rfl cs_X5_57 rfl rfl (Nat.le_of_ble_eq_true rfl) ⟨by decide, by decide⟩ ⟨Nat.zero_le _, Nat.zero_le _⟩ dX5_readImport_42 ?_
    refine ag_pop dX5_readImport_45 rfl ?_
    refine ag_aload_n dX5_readImport_46 rfl ?_
    refine ag_iconst (v := 1) dX5_readImport_47 (by decide) ?_
    refine ag_iconst (v := 0) dX5_readImport_48 (by decide) ?_
    refine ag_sipush (v := 255) dX5_readImport_49 (by decide) ?_
    refine ag_bnd (fun p4 hp4 => ?_)
    refine ag_ivIe (c_X5_number o0 1 0 255 ho0 hp4) vwC_D (vwC_at (kpC_4 _ ho0)) rfl cs_X5_57 rfl rfl (Nat.le_of_ble_eq_true rfl) ⟨by decide, by decide⟩ ⟨Nat.zero_le _, Nat.zero_le _⟩ dX5_readImport_52 ?_
    refine ag_pop dX5_readImport_55 rfl ?_
    refine ag_goto (tgt := 134) dX5_readImport_56 (by decide) ?_
    exact ag_vrep dX5_readImport_134
  · refine ag_if (fun h5 => ?_) (fun h5 => ?_)
    · refine ag_tab (off := 52) (tgt := 59) h5 dX5_readImport_7 (by decide) (by decide) (by decide) (by decide) ?_
      refine ag_aload_n dX5_readImport_59 rfl ?_
      refine ag_iconst (v := 1) dX5_readImport_60 (by decide) ?_
      refine ag_iconst (v := 0) dX5_readImport_61 (by decide) ?_
      refine ag_bipush (v := 8) dX5_readImport_62 (by decide) ?_
      refine ag_bnd (fun p6 hp6 => ?_)
      refine ag_ivIe (c_X5_number o0 1 0 8 ho0 hp6) vwC_D (vwC_at (kpC_4 _ ho0)) rfl cs_X5_57 rfl rfl (Nat.le_of_ble_eq_true rfl) ⟨by decide, by decide⟩ ⟨Nat.zero_le _, Nat.zero_le _⟩ dX5_readImport_64 ?_
      refine ag_pop dX5_readImport_67 rfl ?_
      refine ag_aload_n dX5_readImport_68 rfl ?_
      refine ag_iconst (v := 1) dX5_readImport_69 (by decide) ?_
      refine ag_iconst (v := 0) dX5_readImport_70 (by decide) ?_
      refine ag_iconst (v := 0) dX5_readImport_71 (by decide) ?_
      refine ag_bnd (fun p7 hp7 => ?_)
      refine ag_ivIe (c_X5_number o0 1 0 0 ho0 hp7) vwC_D (vwC_at (kpC_4 _ ho0)) rfl cs_X5_57 rfl rfl (Nat.le_of_ble_eq_true rfl) ⟨by decide, by decide⟩ ⟨Nat.zero_le _, Nat.zero_le _⟩ dX5_readImport_72 ?_
      refine ag_pop dX5_readImport_75 rfl ?_
      refine ag_goto (tgt := 134) dX5_readImport_76 (by decide) ?_
      exact ag_vrep dX5_readImport_134
    · refine ag_if (fun h8 => ?_) (fun h8 => ?_)
      · refine ag_tab (off := 72) (tgt := 79) h8 dX5_readImport_7 (by decide) (by decide) (by decide) (by decide) ?_
        refine ag_aload_n dX5_readImport_79 rfl ?_
        refine ag_iconst (v := 1) dX5_readImport_80 (by decide) ?_
        refine ag_iconst (v := 1) dX5_readImport_81 (by decide) ?_
        refine ag_iconst (v := 3) dX5_readImport_82 (by decide) ?_
        refine ag_bnd (fun p9 hp9 => ?_)
        refine ag_ivIe (c_X5_number o0 1 1 3 ho0 hp9) vwC_D (vwC_at (kpC_4 _ ho0)) rfl cs_X5_57 rfl rfl (Nat.le_of_ble_eq_true rfl) ⟨by decide, by decide⟩ ⟨Nat.zero_le _, Nat.zero_le _⟩ dX5_readImport_83 ?_
        refine ag_pop dX5_readImport_86 rfl ?_
        refine ag_aload_n dX5_readImport_87 rfl ?_
        refine ag_iconst (v := 1) dX5_readImport_88 (by decide) ?_
        refine ag_iconst (v := 0) dX5_readImport_89 (by decide) ?_
        refine ag_iconst (v := 0) dX5_readImport_90 (by decide) ?_
        refine ag_bnd (fun p10 hp10 => ?_)
        refine ag_ivIe (c_X5_number o0 1 0 0 ho0 hp10) vwC_D (vwC_at (kpC_4 _ ho0)) rfl cs_X5_57 rfl rfl (Nat.le_of_ble_eq_true rfl) ⟨by decide, by decide⟩ ⟨Nat.zero_le _, Nat.zero_le _⟩ dX5_readImport_91 ?_
        refine ag_pop dX5_readImport_94 rfl ?_
        refine ag_goto (tgt := 134) dX5_readImport_95 (by decide) ?_
        exact ag_vrep dX5_readImport_134
      · refine ag_if (fun h11 => ?_) (fun h11 => ?_)
        · refine ag_tab (off := 91) (tgt := 98) h11 dX5_readImport_7 (by decide) (by decide) (by decide) (by decide) ?_
          refine ag_aload_n dX5_readImport_98 rfl ?_
          refine ag_iconst (v := 1) dX5_readImport_99 (by decide) ?_
          refine ag_iconst (v := 0) dX5_readImport_100 (by decide) ?_
          refine ag_sipush (v := 239) dX5_readImport_101 (by decide) ?_
          refine ag_bnd (fun p12 hp12 => ?_)
          refine ag_ivIe (c_X5_number o0 1 0 239 ho0 hp12) vwC_D (vwC_at (kpC_4 _ ho0)) rfl cs_X5_57 rfl rfl (Nat.le_of_ble_eq_true rfl) ⟨by decide, by decide⟩ ⟨Nat.zero_le _, Nat.zero_le _⟩ dX5_readImport_104 ?_
          refine ag_pop dX5_readImport_107 rfl ?_
          refine ag_aload_n dX5_readImport_108 rfl ?_
          refine ag_iconst (v := 1) dX5_readImport_109 (by decide) ?_
          refine ag_iconst (v := 1) dX5_readImport_110 (by decide) ?_
          refine ag_bipush (v := 16) dX5_readImport_111 (by decide) ?_
          refine ag_bnd (fun p13 hp13 => ?_)
          refine ag_ivIe (c_X5_number o0 1 1 16 ho0 hp13) vwC_D (vwC_at (kpC_4 _ ho0)) rfl cs_X5_57 rfl rfl (Nat.le_of_ble_eq_true rfl) ⟨by decide, by decide⟩ ⟨Nat.zero_le _, Nat.zero_le _⟩ dX5_readImport_113 ?_
          refine ag_pop dX5_readImport_116 rfl ?_
          refine ag_goto (tgt := 134) dX5_readImport_117 (by decide) ?_
          exact ag_vrep dX5_readImport_134
        · refine ag_tabD (tgt := 120) dX5_readImport_7 (by have z0 := lv_neT h2 (k := 0) (a := 0) (by decide); have z1 := lv_neT h5 (k := 1) (a := 1) (by decide); have z2 := lv_neT h8 (k := 2) (a := 2) (by decide); have z3 := lv_neT h11 (k := 3) (a := 3) (by decide); omega) (by decide) ?_
          refine ag_aload_n dX5_readImport_120 rfl ?_
          refine ag_iconst (v := 1) dX5_readImport_121 (by decide) ?_
          refine ag_iconst (v := 0) dX5_readImport_122 (by decide) ?_
          refine ag_sipush (v := 255) dX5_readImport_123 (by decide) ?_
          refine ag_bnd (fun p14 hp14 => ?_)
          refine ag_ivIe (c_X5_number o0 1 0 255 ho0 hp14) vwC_D (vwC_at (kpC_4 _ ho0)) rfl cs_X5_57 rfl rfl (Nat.le_of_ble_eq_true rfl) ⟨by decide, by decide⟩ ⟨Nat.zero_le _, Nat.zero_le _⟩ dX5_readImport_126 ?_
          refine ag_pop dX5_readImport_129 rfl ?_
          refine ag_aload_n dX5_readImport_130 rfl ?_
          refine ag_bnd (fun p15 hp15 => ?_)
          refine ag_ivVe (c_X5_readGlobalsPerms o0 ho0 hp15) vwC_D (vwC_at (kpC_4 _ ho0)) rfl cs_X5_113 rfl rfl (Nat.le_of_ble_eq_true rfl) ⟨by decide, by decide⟩ ⟨Nat.zero_le _, Nat.zero_le _⟩ dX5_readImport_131 ?_
          exact ag_vrep dX5_readImport_134
set_option maxRecDepth 100000 in
set_option maxHeartbeats 4000000 in
theorem c_X5_skip {l : Launch} {D : va_G} {cy : Nat → ClassId} {bs kb : Nat} {V : HV} (o0 : Nat) (x1 : Int32) (ho0 : o0 < 1) {z : HV} (hz : f_X5_skip kb o0 x1 V = z) : CM l (aG 737 bs) D (tyL cy) (vwC cy bs kb) yX5_skip cX5_skip 2 none 1 22 tvV [.ref (bs + posC 4 o0), .int x1] V ((), z) := by
  refine cm_of vwC_D (by decide +kernel) (own := RX5) rfl (Nat.le_of_ble_eq_true rfl) (L := [some (.ref (bs + posC 4 o0)), some (.int x1)]) rfl hz (fun Γ => ?_)
  unfold f_X5_skip
  refine ag_aload_n dX5_skip_0 rfl ?_
  refine gC_X5_at ho0 fl_X5_27 dX5_skip_1 ?_
  refine ag_iload_n dX5_skip_4 rfl ?_
  refine ag_iadd dX5_skip_5 ?_
  refine ag_aload_n dX5_skip_6 rfl ?_
  refine gC_X5_end ho0 fl_X5_30 dX5_skip_7 ?_
  refine ag_icmp_le (tgt := 25) dX5_skip_10 (by decide) (fun h1 => ?_) (fun h1 => ?_)
  · refine ag_aload_n dX5_skip_25 rfl ?_
    refine ag_dup dX5_skip_26 rfl ?_
    refine gC_X5_at ho0 fl_X5_27 dX5_skip_27 ?_
    refine ag_iload_n dX5_skip_30 rfl ?_
    refine ag_iadd dX5_skip_31 ?_
    refine pC_X5_at ho0 fl_X5_27 dX5_skip_32 ?_
    refine ag_ltV (fun V2 => ?_)
    exact ag_vre dX5_skip_35
  · refine ag_aload_n dX5_skip_13 rfl ?_
    refine ag_iconst (v := 1) dX5_skip_14 (by decide) ?_
    refine ag_aload_n dX5_skip_15 rfl ?_
    refine gC_X5_end ho0 fl_X5_30 dX5_skip_16 ?_
    refine ag_ivVe (c_X5_fail o0 1 (V 403 o0 0) ho0 rfl) vwC_D (vwC_at (kpC_4 _ ho0)) rfl cs_X5_43 rfl rfl (Nat.le_of_ble_eq_true rfl) ⟨by decide, by decide⟩ ⟨Nat.zero_le _, Nat.zero_le _⟩ dX5_skip_19 ?_
    refine ag_ltV (fun V3 => ?_)
    refine ag_goto (tgt := 35) dX5_skip_22 (by decide) ?_
    exact ag_vre dX5_skip_35
set_option maxRecDepth 100000 in
set_option maxHeartbeats 4000000 in
theorem c_X5_readCompartment {l : Launch} {D : va_G} {cy : Nat → ClassId} {bs kb : Nat} {V : HV} (o0 : Nat) (o1 : Nat) (ho0 : o0 < 1) (ho1 : o1 < 8) {z : HV} (hz : f_X5_readCompartment kb o0 o1 V = some z) : CM l (aG 737 bs) D (tyL cy) (vwC cy bs kb) yX5_readCompartment cX5_readCompartment 3 none 4 88 tvV [.ref (bs + posC 4 o0), .ref (bs + posC 1 o1)] V ((), z) := by
  refine cm_of vwC_D (by decide +kernel) (own := RX5) rfl (Nat.le_of_ble_eq_true rfl) (L := [some (.ref (bs + posC 4 o0)), some (.ref (bs + posC 1 o1)), none]) rfl hz (fun Γ => ?_)
  unfold f_X5_readCompartment
  refine ag_aload_n dX5_readCompartment_0 rfl ?_
  refine ag_aload_n dX5_readCompartment_1 rfl ?_
  refine ag_iconst (v := 2) dX5_readCompartment_2 (by decide) ?_
  refine ag_iconst (v := 1) dX5_readCompartment_3 (by decide) ?_
  refine ag_sipush (v := 200) dX5_readCompartment_4 (by decide) ?_
  refine ag_bnd (fun p1 hp1 => ?_)
  refine ag_ivIe (c_X5_number o0 2 1 200 ho0 hp1) vwC_D (vwC_at (kpC_4 _ ho0)) rfl cs_X5_57 rfl rfl (Nat.le_of_ble_eq_true rfl) ⟨by decide, by decide⟩ ⟨Nat.zero_le _, Nat.zero_le _⟩ dX5_readCompartment_7 ?_
  refine pC_X1_words ho1 fl_X5_77 dX5_readCompartment_10 ?_
  refine ag_ltV (fun V2 => ?_)
  refine ag_aload_n dX5_readCompartment_13 rfl ?_
  refine ag_aload_n dX5_readCompartment_14 rfl ?_
  refine ag_iconst (v := 1) dX5_readCompartment_15 (by decide) ?_
  refine ag_iconst (v := 0) dX5_readCompartment_16 (by decide) ?_
  refine ag_bipush (v := 32) dX5_readCompartment_17 (by decide) ?_
  refine ag_bnd (fun p3 hp3 => ?_)
  refine ag_ivIe (c_X5_number o0 1 0 32 ho0 hp3) vwC_D (vwC_at (kpC_4 _ ho0)) rfl cs_X5_57 rfl rfl (Nat.le_of_ble_eq_true rfl) ⟨by decide, by decide⟩ ⟨Nat.zero_le _, Nat.zero_le _⟩ dX5_readCompartment_19 ?_
  refine pC_X1_globals ho1 fl_X5_82 dX5_readCompartment_22 ?_
  refine ag_ltV (fun V4 => ?_)
  refine ag_aload_n dX5_readCompartment_25 rfl ?_
  refine ag_aload_n dX5_readCompartment_26 rfl ?_
  refine ag_iconst (v := 1) dX5_readCompartment_27 (by decide) ?_
  refine ag_iconst (v := 0) dX5_readCompartment_28 (by decide) ?_
  refine ag_bipush (v := 8) dX5_readCompartment_29 (by decide) ?_
  refine ag_bnd (fun p5 hp5 => ?_)
  refine ag_ivIe (c_X5_number o0 1 0 8 ho0 hp5) vwC_D (vwC_at (kpC_4 _ ho0)) rfl cs_X5_57 rfl rfl (Nat.le_of_ble_eq_true rfl) ⟨by decide, by decide⟩ ⟨Nat.zero_le _, Nat.zero_le _⟩ dX5_readCompartment_31 ?_
  refine pC_X1_exports ho1 fl_X5_85 dX5_readCompartment_34 ?_
  refine ag_ltV (fun V6 => ?_)
  refine ag_aload_n dX5_readCompartment_37 rfl ?_
  refine ag_aload_n dX5_readCompartment_38 rfl ?_
  refine ag_iconst (v := 1) dX5_readCompartment_39 (by decide) ?_
  refine ag_iconst (v := 0) dX5_readCompartment_40 (by decide) ?_
  refine ag_bipush (v := 16) dX5_readCompartment_41 (by decide) ?_
  refine ag_bnd (fun p7 hp7 => ?_)
  refine ag_ivIe (c_X5_number o0 1 0 16 ho0 hp7) vwC_D (vwC_at (kpC_4 _ ho0)) rfl cs_X5_57 rfl rfl (Nat.le_of_ble_eq_true rfl) ⟨by decide, by decide⟩ ⟨Nat.zero_le _, Nat.zero_le _⟩ dX5_readCompartment_43 ?_
  refine pC_X1_imports ho1 fl_X5_88 dX5_readCompartment_46 ?_
  refine ag_ltV (fun V8 => ?_)
  refine ag_iconst (v := 0) dX5_readCompartment_49 (by decide) ?_
  refine ag_istore_n (L' := [some (.ref (bs + posC 4 o0)), some (.ref (bs + posC 1 o1)), some (.int 0)]) dX5_readCompartment_50 (by decide) rfl ?_
  refine ag_jn1 (j := 102) (L1 := fun V11 => [some (.ref (bs + posC 4 o0)), some (.ref (bs + posC 1 o1)), none]) (st1 := fun V11 => []) (ws1 := fun V11 => vwC cy bs kb V11) (fun V11 => ?_) (fun k9 hk10 => ?_)
  · refine ag_aload_n dX5_readCompartment_102 rfl ?_
    refine ag_aload_n dX5_readCompartment_103 rfl ?_
    refine gC_X5_at ho0 fl_X5_27 dX5_readCompartment_104 ?_
    refine pC_X1_importsText ho1 fl_X5_98 dX5_readCompartment_107 ?_
    refine ag_ltV (fun V12 => ?_)
    refine ag_iconst (v := 0) dX5_readCompartment_110 (by decide) ?_
    refine ag_istore_n (L' := [some (.ref (bs + posC 4 o0)), some (.ref (bs + posC 1 o1)), some (.int 0)]) dX5_readCompartment_111 (by decide) rfl ?_
    refine ag_jn1 (j := 130) (L1 := fun V15 => [some (.ref (bs + posC 4 o0)), some (.ref (bs + posC 1 o1)), none]) (st1 := fun V15 => []) (ws1 := fun V15 => vwC cy bs kb V15) (fun V15 => ?_) (fun k13 hk14 => ?_)
    · refine ag_aload_n dX5_readCompartment_130 rfl ?_
      refine ag_aload_n dX5_readCompartment_131 rfl ?_
      refine gC_X5_at ho0 fl_X5_27 dX5_readCompartment_132 ?_
      refine pC_X1_codeText ho1 fl_X5_104 dX5_readCompartment_135 ?_
      refine ag_ltV (fun V16 => ?_)
      refine ag_aload_n dX5_readCompartment_138 rfl ?_
      refine ag_aload_n dX5_readCompartment_139 rfl ?_
      refine gC_X1_words ho1 fl_X5_77 dX5_readCompartment_140 ?_
      refine ag_iconst (v := 4) dX5_readCompartment_143 (by decide) ?_
      refine ag_imul dX5_readCompartment_144 ?_
      refine ag_ivVe (c_X5_skip o0 ((V16 102 o1 0) * 4) ho0 rfl) vwC_D (vwC_at (kpC_4 _ ho0)) rfl cs_X5_107 rfl rfl (Nat.le_of_ble_eq_true rfl) ⟨by decide, by decide⟩ ⟨Nat.zero_le _, Nat.zero_le _⟩ dX5_readCompartment_145 ?_
      refine ag_ltV (fun V17 => ?_)
      exact ag_vrep dX5_readCompartment_148
    · refine ag_loop2 (F := f_X5_readCompartment_L112 o0 o1 kb k13) (L1 := fun v18 V19 => [some (.ref (bs + posC 4 o0)), some (.ref (bs + posC 1 o1)), some (.int v18)]) (st1 := fun v18 V19 => []) (ws1 := fun v18 V19 => vwC cy bs kb V19) (fun n20 ih21 v18 V19 => ?_) (fun _ _ => rfl) FU 0 V12
      rw [f_X5_readCompartment_L112]
      refine ag_iload_n dX5_readCompartment_112 rfl ?_
      refine ag_aload_n dX5_readCompartment_113 rfl ?_
      refine gC_X1_imports ho1 fl_X5_88 dX5_readCompartment_114 ?_
      refine ag_icmp_ge (tgt := 130) dX5_readCompartment_117 (by decide) (fun h22 => ?_) (fun h22 => ?_)
      · refine ag_drop [2] (L' := [some (.ref (bs + posC 4 o0)), some (.ref (bs + posC 1 o1)), none]) rfl ?_
        exact hk14 V19
      · refine ag_aload_n dX5_readCompartment_120 rfl ?_
        refine ag_bnd (fun p23 hp23 => ?_)
        refine ag_ivVe (c_X5_readImport o0 ho0 hp23) vwC_D (vwC_at (kpC_4 _ ho0)) rfl cs_X5_101 rfl rfl (Nat.le_of_ble_eq_true rfl) ⟨by decide, by decide⟩ ⟨Nat.zero_le _, Nat.zero_le _⟩ dX5_readCompartment_121 ?_
        refine ag_iincL (L' := fun v24 => [some (.ref (bs + posC 4 o0)), some (.ref (bs + posC 1 o1)), some (.int v24)]) dX5_readCompartment_124 (by decide) rfl (by decide) (fun _ => rfl) (fun v24 => ?_)
        refine ag_goto (tgt := 112) dX5_readCompartment_127 (by decide) ?_
        exact ih21 v24 p23
  · refine ag_loop2 (F := f_X5_readCompartment_L51 o0 o1 kb k9) (L1 := fun v25 V26 => [some (.ref (bs + posC 4 o0)), some (.ref (bs + posC 1 o1)), some (.int v25)]) (st1 := fun v25 V26 => []) (ws1 := fun v25 V26 => vwC cy bs kb V26) (fun n27 ih28 v25 V26 => ?_) (fun _ _ => rfl) FU 0 V8
    rw [f_X5_readCompartment_L51]
    refine ag_iload_n dX5_readCompartment_51 rfl ?_
    refine ag_aload_n dX5_readCompartment_52 rfl ?_
    refine gC_X1_exports ho1 fl_X5_85 dX5_readCompartment_53 ?_
    refine ag_icmp_ge (tgt := 102) dX5_readCompartment_56 (by decide) (fun h29 => ?_) (fun h29 => ?_)
    · refine ag_drop [2] (L' := [some (.ref (bs + posC 4 o0)), some (.ref (bs + posC 1 o1)), none]) rfl ?_
      exact hk10 V26
    · refine ag_iload_n dX5_readCompartment_59 rfl ?_
      refine ag_bipush (v := 8) dX5_readCompartment_60 (by decide) ?_
      refine ag_icmp_ge (tgt := 102) dX5_readCompartment_62 (by decide) (fun h30 => ?_) (fun h30 => ?_)
      · refine ag_drop [2] (L' := [some (.ref (bs + posC 4 o0)), some (.ref (bs + posC 1 o1)), none]) rfl ?_
        exact hk10 V26
      · refine ag_aload_n dX5_readCompartment_65 rfl ?_
        refine gC_X1_entries ho1 fl_X5_91 dX5_readCompartment_66 ?_
        refine ag_iload_n dX5_readCompartment_69 rfl ?_
        refine ag_aload_n dX5_readCompartment_70 rfl ?_
        refine ag_iconst (v := 2) dX5_readCompartment_71 (by decide) ?_
        refine ag_iconst (v := 0) dX5_readCompartment_72 (by decide) ?_
        refine ag_aload_n dX5_readCompartment_73 rfl ?_
        refine gC_X1_words ho1 fl_X5_77 dX5_readCompartment_74 ?_
        refine ag_iconst (v := 1) dX5_readCompartment_77 (by decide) ?_
        refine ag_isub dX5_readCompartment_78 ?_
        refine ag_bnd (fun p31 hp31 => ?_)
        refine ag_ivIe (c_X5_number o0 2 0 ((V26 102 o1 0) - 1) ho0 hp31) vwC_D (vwC_at (kpC_4 _ ho0)) rfl cs_X5_57 rfl rfl (Nat.le_of_ble_eq_true rfl) ⟨by decide, by decide⟩ ⟨Nat.zero_le _, Nat.zero_le _⟩ dX5_readCompartment_79 ?_
        refine ag_chk (fun h32 => ?_)
        refine sC_27 ho1 h32 dX5_readCompartment_82 ?_
        refine ag_ltV (fun V33 => ?_)
        refine ag_aload_n dX5_readCompartment_83 rfl ?_
        refine gC_X1_interrupts ho1 fl_X5_95 dX5_readCompartment_84 ?_
        refine ag_iload_n dX5_readCompartment_87 rfl ?_
        refine ag_aload_n dX5_readCompartment_88 rfl ?_
        refine ag_iconst (v := 1) dX5_readCompartment_89 (by decide) ?_
        refine ag_iconst (v := 1) dX5_readCompartment_90 (by decide) ?_
        refine ag_iconst (v := 3) dX5_readCompartment_91 (by decide) ?_
        refine ag_bnd (fun p34 hp34 => ?_)
        refine ag_ivIe (c_X5_number o0 1 1 3 ho0 hp34) vwC_D (vwC_at (kpC_4 _ ho0)) rfl cs_X5_57 rfl rfl (Nat.le_of_ble_eq_true rfl) ⟨by decide, by decide⟩ ⟨Nat.zero_le _, Nat.zero_le _⟩ dX5_readCompartment_92 ?_
        refine ag_chk (fun h35 => ?_)
        refine sC_28 ho1 h35 dX5_readCompartment_95 ?_
        refine ag_ltV (fun V36 => ?_)
        refine ag_iincL (L' := fun v37 => [some (.ref (bs + posC 4 o0)), some (.ref (bs + posC 1 o1)), some (.int v37)]) dX5_readCompartment_96 (by decide) rfl (by decide) (fun _ => rfl) (fun v37 => ?_)
        refine ag_goto (tgt := 51) dX5_readCompartment_99 (by decide) ?_
        exact ih28 v37 V36
set_option maxRecDepth 100000 in
set_option maxHeartbeats 4000000 in
theorem c_X5_readImage {l : Launch} {D : va_G} {cy : Nat → ClassId} {bs kb : Nat} {V : HV} (o0 : Nat) (o1 : Nat) (ho0 : o0 < 1) (ho1 : o1 < 1) {z : HV} (hz : f_X5_readImage kb o0 o1 V = some z) : CM l (aG 737 bs) D (tyL cy) (vwC cy bs kb) yX5_readImage cX5_readImage 3 none 5 110 tvV [.ref (bs + posC 4 o0), .ref (bs + posC 8 o1)] V ((), z) := by
  refine cm_of vwC_D (by decide +kernel) (own := RX5) rfl (Nat.le_of_ble_eq_true rfl) (L := [some (.ref (bs + posC 4 o0)), some (.ref (bs + posC 8 o1)), none]) rfl hz (fun Γ => ?_)
  unfold f_X5_readImage
  refine ag_aload_n dX5_readImage_0 rfl ?_
  refine ag_aload_n dX5_readImage_1 rfl ?_
  refine ag_iconst (v := 1) dX5_readImage_2 (by decide) ?_
  refine ag_iconst (v := 1) dX5_readImage_3 (by decide) ?_
  refine ag_bipush (v := 8) dX5_readImage_4 (by decide) ?_
  refine ag_bnd (fun p1 hp1 => ?_)
  refine ag_ivIe (c_X5_number o0 1 1 8 ho0 hp1) vwC_D (vwC_at (kpC_4 _ ho0)) rfl cs_X5_57 rfl rfl (Nat.le_of_ble_eq_true rfl) ⟨by decide, by decide⟩ ⟨Nat.zero_le _, Nat.zero_le _⟩ dX5_readImage_6 ?_
  refine pC_X5_compartments ho0 fl_X5_61 dX5_readImage_9 ?_
  refine ag_ltV (fun V2 => ?_)
  refine ag_aload_n dX5_readImage_12 rfl ?_
  refine ag_aload_n dX5_readImage_13 rfl ?_
  refine ag_iconst (v := 1) dX5_readImage_14 (by decide) ?_
  refine ag_iconst (v := 1) dX5_readImage_15 (by decide) ?_
  refine ag_bipush (v := 6) dX5_readImage_16 (by decide) ?_
  refine ag_bnd (fun p3 hp3 => ?_)
  refine ag_ivIe (c_X5_number o0 1 1 6 ho0 hp3) vwC_D (vwC_at (kpC_4 _ ho0)) rfl cs_X5_57 rfl rfl (Nat.le_of_ble_eq_true rfl) ⟨by decide, by decide⟩ ⟨Nat.zero_le _, Nat.zero_le _⟩ dX5_readImage_18 ?_
  refine pC_X5_tasks ho0 fl_X5_64 dX5_readImage_21 ?_
  refine ag_ltV (fun V4 => ?_)
  refine ag_iconst (v := 0) dX5_readImage_24 (by decide) ?_
  refine ag_istore_n (L' := [some (.ref (bs + posC 4 o0)), some (.ref (bs + posC 8 o1)), some (.int 0)]) dX5_readImage_25 (by decide) rfl ?_
  refine ag_jn1 (j := 56) (L1 := fun V7 => [some (.ref (bs + posC 4 o0)), some (.ref (bs + posC 8 o1)), none]) (st1 := fun V7 => []) (ws1 := fun V7 => vwC cy bs kb V7) (fun V7 => ?_) (fun k5 hk6 => ?_)
  · refine ag_aload_n dX5_readImage_56 rfl ?_
    refine ag_aload_n dX5_readImage_57 rfl ?_
    refine gC_X5_at ho0 fl_X5_27 dX5_readImage_58 ?_
    refine pC_X5_tasksText ho0 fl_X5_74 dX5_readImage_61 ?_
    refine ag_ltV (fun V8 => ?_)
    refine ag_iconst (v := 0) dX5_readImage_64 (by decide) ?_
    refine ag_istore_n (L' := [some (.ref (bs + posC 4 o0)), some (.ref (bs + posC 8 o1)), some (.int 0)]) dX5_readImage_65 (by decide) rfl ?_
    refine ag_jn1 (j := 127) (L1 := fun V11 => [some (.ref (bs + posC 4 o0)), some (.ref (bs + posC 8 o1)), none]) (st1 := fun V11 => []) (ws1 := fun V11 => vwC cy bs kb V11) (fun V11 => ?_) (fun k9 hk10 => ?_)
    · exact ag_vrep dX5_readImage_127
    · refine ag_loop2 (F := f_X5_readImage_L66 o0 kb k9) (L1 := fun v12 V13 => [some (.ref (bs + posC 4 o0)), some (.ref (bs + posC 8 o1)), some (.int v12)]) (st1 := fun v12 V13 => []) (ws1 := fun v12 V13 => vwC cy bs kb V13) (fun n14 ih15 v12 V13 => ?_) (fun _ _ => rfl) FU 0 V8
      rw [f_X5_readImage_L66]
      refine ag_iload_n dX5_readImage_66 rfl ?_
      refine ag_aload_n dX5_readImage_67 rfl ?_
      refine gC_X5_tasks ho0 fl_X5_64 dX5_readImage_68 ?_
      refine ag_icmp_ge (tgt := 127) dX5_readImage_71 (by decide) (fun h16 => ?_) (fun h16 => ?_)
      · refine ag_drop [2] (L' := [some (.ref (bs + posC 4 o0)), some (.ref (bs + posC 8 o1)), none]) rfl ?_
        exact hk10 V13
      · refine ag_aload_n dX5_readImage_74 rfl ?_
        refine ag_iconst (v := 1) dX5_readImage_75 (by decide) ?_
        refine ag_iconst (v := 0) dX5_readImage_76 (by decide) ?_
        refine ag_sipush (v := 255) dX5_readImage_77 (by decide) ?_
        refine ag_bnd (fun p17 hp17 => ?_)
        refine ag_ivIe (c_X5_number o0 1 0 255 ho0 hp17) vwC_D (vwC_at (kpC_4 _ ho0)) rfl cs_X5_57 rfl rfl (Nat.le_of_ble_eq_true rfl) ⟨by decide, by decide⟩ ⟨Nat.zero_le _, Nat.zero_le _⟩ dX5_readImage_80 ?_
        refine ag_pop dX5_readImage_83 rfl ?_
        refine ag_aload_n dX5_readImage_84 rfl ?_
        refine ag_iconst (v := 1) dX5_readImage_85 (by decide) ?_
        refine ag_iconst (v := 0) dX5_readImage_86 (by decide) ?_
        refine ag_sipush (v := 255) dX5_readImage_87 (by decide) ?_
        refine ag_bnd (fun p18 hp18 => ?_)
        refine ag_ivIe (c_X5_number o0 1 0 255 ho0 hp18) vwC_D (vwC_at (kpC_4 _ ho0)) rfl cs_X5_57 rfl rfl (Nat.le_of_ble_eq_true rfl) ⟨by decide, by decide⟩ ⟨Nat.zero_le _, Nat.zero_le _⟩ dX5_readImage_90 ?_
        refine ag_pop dX5_readImage_93 rfl ?_
        refine ag_aload_n dX5_readImage_94 rfl ?_
        refine ag_iconst (v := 1) dX5_readImage_95 (by decide) ?_
        refine ag_iconst (v := 0) dX5_readImage_96 (by decide) ?_
        refine ag_bipush (v := 7) dX5_readImage_97 (by decide) ?_
        refine ag_bnd (fun p19 hp19 => ?_)
        refine ag_ivIe (c_X5_number o0 1 0 7 ho0 hp19) vwC_D (vwC_at (kpC_4 _ ho0)) rfl cs_X5_57 rfl rfl (Nat.le_of_ble_eq_true rfl) ⟨by decide, by decide⟩ ⟨Nat.zero_le _, Nat.zero_le _⟩ dX5_readImage_99 ?_
        refine ag_pop dX5_readImage_102 rfl ?_
        refine ag_aload_n dX5_readImage_103 rfl ?_
        refine ag_iconst (v := 1) dX5_readImage_104 (by decide) ?_
        refine ag_iconst (v := 1) dX5_readImage_105 (by decide) ?_
        refine ag_bipush (v := 32) dX5_readImage_106 (by decide) ?_
        refine ag_bnd (fun p20 hp20 => ?_)
        refine ag_ivIe (c_X5_number o0 1 1 32 ho0 hp20) vwC_D (vwC_at (kpC_4 _ ho0)) rfl cs_X5_57 rfl rfl (Nat.le_of_ble_eq_true rfl) ⟨by decide, by decide⟩ ⟨Nat.zero_le _, Nat.zero_le _⟩ dX5_readImage_108 ?_
        refine ag_pop dX5_readImage_111 rfl ?_
        refine ag_aload_n dX5_readImage_112 rfl ?_
        refine ag_iconst (v := 1) dX5_readImage_113 (by decide) ?_
        refine ag_iconst (v := 0) dX5_readImage_114 (by decide) ?_
        refine ag_bipush (v := 16) dX5_readImage_115 (by decide) ?_
        refine ag_bnd (fun p21 hp21 => ?_)
        refine ag_ivIe (c_X5_number o0 1 0 16 ho0 hp21) vwC_D (vwC_at (kpC_4 _ ho0)) rfl cs_X5_57 rfl rfl (Nat.le_of_ble_eq_true rfl) ⟨by decide, by decide⟩ ⟨Nat.zero_le _, Nat.zero_le _⟩ dX5_readImage_117 ?_
        refine ag_pop dX5_readImage_120 rfl ?_
        refine ag_iincL (L' := fun v22 => [some (.ref (bs + posC 4 o0)), some (.ref (bs + posC 8 o1)), some (.int v22)]) dX5_readImage_121 (by decide) rfl (by decide) (fun _ => rfl) (fun v22 => ?_)
        refine ag_goto (tgt := 66) dX5_readImage_124 (by decide) ?_
        exact ih15 v22 p21.2
  · refine ag_loop2 (F := f_X5_readImage_L26 o0 kb k5) (L1 := fun v23 V24 => [some (.ref (bs + posC 4 o0)), some (.ref (bs + posC 8 o1)), some (.int v23)]) (st1 := fun v23 V24 => []) (ws1 := fun v23 V24 => vwC cy bs kb V24) (fun n25 ih26 v23 V24 => ?_) (fun _ _ => rfl) FU 0 V4
    rw [f_X5_readImage_L26]
    refine ag_iload_n dX5_readImage_26 rfl ?_
    refine ag_aload_n dX5_readImage_27 rfl ?_
    refine gC_X5_compartments ho0 fl_X5_61 dX5_readImage_28 ?_
    refine ag_icmp_ge (tgt := 56) dX5_readImage_31 (by decide) (fun h27 => ?_) (fun h27 => ?_)
    · refine ag_drop [2] (L' := [some (.ref (bs + posC 4 o0)), some (.ref (bs + posC 8 o1)), none]) rfl ?_
      exact hk6 V24
    · refine ag_iload_n dX5_readImage_34 rfl ?_
      refine ag_bipush (v := 8) dX5_readImage_35 (by decide) ?_
      refine ag_icmp_ge (tgt := 56) dX5_readImage_37 (by decide) (fun h28 => ?_) (fun h28 => ?_)
      · refine ag_drop [2] (L' := [some (.ref (bs + posC 4 o0)), some (.ref (bs + posC 8 o1)), none]) rfl ?_
        exact hk6 V24
      · refine ag_aload_n dX5_readImage_40 rfl ?_
        refine ag_aload_n dX5_readImage_41 rfl ?_
        refine gC_X10_compartments ho1 fl_X5_67 dX5_readImage_42 ?_
        refine ag_iload_n dX5_readImage_45 rfl ?_
        refine ag_chk (fun h29 => ?_)
        have qh29 := inb_lt h29
        refine aC_21 (by decide) h29 dX5_readImage_46 ?_
        refine ag_bnd (fun p30 hp30 => ?_)
        refine ag_ivVe (c_X5_readCompartment o0 ((v23).toNatClampNeg) ho0 (by omega) hp30) vwC_D (vwC_at (kpC_4 _ ho0)) rfl cs_X5_70 rfl rfl (Nat.le_of_ble_eq_true rfl) ⟨by decide, by decide⟩ ⟨Nat.zero_le _, Nat.zero_le _⟩ dX5_readImage_47 ?_
        refine ag_iincL (L' := fun v31 => [some (.ref (bs + posC 4 o0)), some (.ref (bs + posC 8 o1)), some (.int v31)]) dX5_readImage_50 (by decide) rfl (by decide) (fun _ => rfl) (fun v31 => ?_)
        refine ag_goto (tgt := 26) dX5_readImage_53 (by decide) ?_
        exact ih26 v31 p30
set_option maxRecDepth 100000 in
set_option maxHeartbeats 4000000 in
theorem c_X5_checkCompartment {l : Launch} {D : va_G} {cy : Nat → ClassId} {bs kb : Nat} {V : HV} (o0 : Nat) (x1 : Int32) (ho0 : o0 < 1) {z : HV} (hz : f_X5_checkCompartment kb o0 x1 V = some z) : CM l (aG 737 bs) D (tyL cy) (vwC cy bs kb) yX5_checkCompartment cX5_checkCompartment 2 none 1 22 tvV [.ref (bs + posC 4 o0), .int x1] V ((), z) := by
  refine cm_of vwC_D (by decide +kernel) (own := RX5) rfl (Nat.le_of_ble_eq_true rfl) (L := [some (.ref (bs + posC 4 o0)), some (.int x1)]) rfl hz (fun Γ => ?_)
  unfold f_X5_checkCompartment
  refine ag_aload_n dX5_checkCompartment_0 rfl ?_
  refine ag_iload_n dX5_checkCompartment_1 rfl ?_
  refine ag_bnd (fun p1 hp1 => ?_)
  refine ag_ivIp (c_X5_byteAt o0 x1 ho0 hp1) vwC_D (vwC_at (kpC_4 _ ho0)) rfl cs_X5_53 rfl rfl (Nat.le_of_ble_eq_true rfl) ⟨by decide, by decide⟩ ⟨Nat.zero_le _, Nat.zero_le _⟩ dX5_checkCompartment_2 ?_
  refine ag_aload_n dX5_checkCompartment_5 rfl ?_
  refine gC_X5_compartments ho0 fl_X5_61 dX5_checkCompartment_6 ?_
  refine ag_icmp_lt (tgt := 18) dX5_checkCompartment_9 (by decide) (fun h2 => ?_) (fun h2 => ?_)
  · exact ag_vrep dX5_checkCompartment_18
  · refine ag_aload_n dX5_checkCompartment_12 rfl ?_
    refine ag_iconst (v := 3) dX5_checkCompartment_13 (by decide) ?_
    refine ag_iload_n dX5_checkCompartment_14 rfl ?_
    refine ag_ivVe (c_X5_fail o0 3 x1 ho0 rfl) vwC_D (vwC_at (kpC_4 _ ho0)) rfl cs_X5_43 rfl rfl (Nat.le_of_ble_eq_true rfl) ⟨by decide, by decide⟩ ⟨Nat.zero_le _, Nat.zero_le _⟩ dX5_checkCompartment_15 ?_
    refine ag_ltV (fun V3 => ?_)
    exact ag_vrep dX5_checkCompartment_18
set_option maxRecDepth 100000 in
set_option maxHeartbeats 4000000 in
theorem c_X5_checkExport {l : Launch} {D : va_G} {cy : Nat → ClassId} {bs kb : Nat} {V : HV} (o0 : Nat) (o1 : Nat) (x2 : Int32) (ho0 : o0 < 1) (ho1 : o1 < 1) {z : HV} (hz : f_X5_checkExport kb o0 o1 x2 V = some z) : CM l (aG 737 bs) D (tyL cy) (vwC cy bs kb) yX5_checkExport cX5_checkExport 4 none 2 43 tvV [.ref (bs + posC 4 o0), .ref (bs + posC 8 o1), .int x2] V ((), z) := by
  refine cm_of vwC_D (by decide +kernel) (own := RX5) rfl (Nat.le_of_ble_eq_true rfl) (L := [some (.ref (bs + posC 4 o0)), some (.ref (bs + posC 8 o1)), some (.int x2), none]) rfl hz (fun Γ => ?_)
  unfold f_X5_checkExport
  refine ag_aload_n dX5_checkExport_0 rfl ?_
  refine ag_iload_n dX5_checkExport_1 rfl ?_
  refine ag_bnd (fun p1 hp1 => ?_)
  refine ag_ivVe (c_X5_checkCompartment o0 x2 ho0 hp1) vwC_D (vwC_at (kpC_4 _ ho0)) rfl cs_X5_120 rfl rfl (Nat.le_of_ble_eq_true rfl) ⟨by decide, by decide⟩ ⟨Nat.zero_le _, Nat.zero_le _⟩ dX5_checkExport_2 ?_
  refine ag_aload_n dX5_checkExport_5 rfl ?_
  refine ag_iload_n dX5_checkExport_6 rfl ?_
  refine ag_bnd (fun p2 hp2 => ?_)
  refine ag_ivIp (c_X5_byteAt o0 x2 ho0 hp2) vwC_D (vwC_at (kpC_4 _ ho0)) rfl cs_X5_53 rfl rfl (Nat.le_of_ble_eq_true rfl) ⟨by decide, by decide⟩ ⟨Nat.zero_le _, Nat.zero_le _⟩ dX5_checkExport_7 ?_
  refine ag_istore_n (L' := [some (.ref (bs + posC 4 o0)), some (.ref (bs + posC 8 o1)), some (.int x2), some (.int p2)]) dX5_checkExport_10 (by decide) rfl ?_
  refine ag_iload_n dX5_checkExport_11 rfl ?_
  refine ag_bipush (v := 8) dX5_checkExport_12 (by decide) ?_
  refine ag_icmp_ge (tgt := 44) dX5_checkExport_14 (by decide) (fun h3 => ?_) (fun h3 => ?_)
  · exact ag_vrep dX5_checkExport_44
  · refine ag_aload_n dX5_checkExport_17 rfl ?_
    refine gC_X10_compartments ho1 fl_X5_67 dX5_checkExport_18 ?_
    refine ag_iload_n dX5_checkExport_21 rfl ?_
    refine ag_chk (fun h4 => ?_)
    have qh4 := inb_lt h4
    refine aC_21 (by decide) h4 dX5_checkExport_22 ?_
    refine ag_aload_n dX5_checkExport_23 rfl ?_
    refine ag_iload_n dX5_checkExport_24 rfl ?_
    refine ag_iconst (v := 1) dX5_checkExport_25 (by decide) ?_
    refine ag_iadd dX5_checkExport_26 ?_
    refine ag_bnd (fun p5 hp5 => ?_)
    refine ag_ivIp (c_X5_byteAt o0 (x2 + 1) ho0 hp5) vwC_D (vwC_at (kpC_4 _ ho0)) rfl cs_X5_53 rfl rfl (Nat.le_of_ble_eq_true rfl) ⟨by decide, by decide⟩ ⟨Nat.zero_le _, Nat.zero_le _⟩ dX5_checkExport_27 ?_
    refine ag_ivZp (c_X1_hasExport ((p2).toNatClampNeg) p5 (by omega) rfl) vwC_D (vwC_at (kpC_1 _ (by omega))) rfl cs_X5_123 rfl rfl (Nat.le_of_ble_eq_true rfl) ⟨by decide, by decide⟩ ⟨Nat.zero_le _, Nat.zero_le _⟩ dX5_checkExport_30 ?_
    refine ag_ltZ (fun v6 => ?_)
    refine ag_bif_ne (tgt := 44) dX5_checkExport_33 (by decide) (fun h7 => ?_) (fun h7 => ?_)
    · exact ag_vrep dX5_checkExport_44
    · refine ag_aload_n dX5_checkExport_36 rfl ?_
      refine ag_iconst (v := 3) dX5_checkExport_37 (by decide) ?_
      refine ag_iload_n dX5_checkExport_38 rfl ?_
      refine ag_iconst (v := 1) dX5_checkExport_39 (by decide) ?_
      refine ag_iadd dX5_checkExport_40 ?_
      refine ag_ivVe (c_X5_fail o0 3 (x2 + 1) ho0 rfl) vwC_D (vwC_at (kpC_4 _ ho0)) rfl cs_X5_43 rfl rfl (Nat.le_of_ble_eq_true rfl) ⟨by decide, by decide⟩ ⟨Nat.zero_le _, Nat.zero_le _⟩ dX5_checkExport_41 ?_
      refine ag_ltV (fun V8 => ?_)
      exact ag_vrep dX5_checkExport_44
set_option maxRecDepth 100000 in
set_option maxHeartbeats 4000000 in
theorem c_X5_checkTargets {l : Launch} {D : va_G} {cy : Nat → ClassId} {bs kb : Nat} {V : HV} (o0 : Nat) (o1 : Nat) (ho0 : o0 < 1) (ho1 : o1 < 1) {z : HV} (hz : f_X5_checkTargets kb o0 o1 V = some z) : CM l (aG 737 bs) D (tyL cy) (vwC cy bs kb) yX5_checkTargets cX5_checkTargets 7 none 3 66 tvV [.ref (bs + posC 4 o0), .ref (bs + posC 8 o1)] V ((), z) := by
  refine cm_of vwC_D (by decide +kernel) (own := RX5) rfl (Nat.le_of_ble_eq_true rfl) (L := [some (.ref (bs + posC 4 o0)), some (.ref (bs + posC 8 o1)), none, none, none, none, none]) rfl hz (fun Γ => ?_)
  unfold f_X5_checkTargets
  refine ag_iconst (v := 0) dX5_checkTargets_0 (by decide) ?_
  refine ag_istore_n (L' := [some (.ref (bs + posC 4 o0)), some (.ref (bs + posC 8 o1)), some (.int 0), none, none, none, none]) dX5_checkTargets_1 (by decide) rfl ?_
  refine ag_jn1 (j := 97) (L1 := fun V3 => [some (.ref (bs + posC 4 o0)), some (.ref (bs + posC 8 o1)), none, none, none, none, none]) (st1 := fun V3 => []) (ws1 := fun V3 => vwC cy bs kb V3) (fun V3 => ?_) (fun k1 hk2 => ?_)
  · refine ag_iconst (v := 0) dX5_checkTargets_97 (by decide) ?_
    refine ag_istore_n (L' := [some (.ref (bs + posC 4 o0)), some (.ref (bs + posC 8 o1)), some (.int 0), none, none, none, none]) dX5_checkTargets_98 (by decide) rfl ?_
    refine ag_jn1 (j := 126) (L1 := fun V6 => [some (.ref (bs + posC 4 o0)), some (.ref (bs + posC 8 o1)), none, none, none, none, none]) (st1 := fun V6 => []) (ws1 := fun V6 => vwC cy bs kb V6) (fun V6 => ?_) (fun k4 hk5 => ?_)
    · exact ag_vrep dX5_checkTargets_126
    · refine ag_loop2 (F := f_X5_checkTargets_L99 o0 o1 kb k4) (L1 := fun v7 V8 => [some (.ref (bs + posC 4 o0)), some (.ref (bs + posC 8 o1)), some (.int v7), none, none, none, none]) (st1 := fun v7 V8 => []) (ws1 := fun v7 V8 => vwC cy bs kb V8) (fun n9 ih10 v7 V8 => ?_) (fun _ _ => rfl) FU 0 V3
      rw [f_X5_checkTargets_L99]
      refine ag_iload_n dX5_checkTargets_99 rfl ?_
      refine ag_aload_n dX5_checkTargets_100 rfl ?_
      refine gC_X5_tasks ho0 fl_X5_64 dX5_checkTargets_101 ?_
      refine ag_icmp_ge (tgt := 126) dX5_checkTargets_104 (by decide) (fun h11 => ?_) (fun h11 => ?_)
      · refine ag_drop [2] (L' := [some (.ref (bs + posC 4 o0)), some (.ref (bs + posC 8 o1)), none, none, none, none, none]) rfl ?_
        exact hk5 V8
      · refine ag_aload_n dX5_checkTargets_107 rfl ?_
        refine ag_aload_n dX5_checkTargets_108 rfl ?_
        refine ag_aload_n dX5_checkTargets_109 rfl ?_
        refine gC_X5_tasksText ho0 fl_X5_74 dX5_checkTargets_110 ?_
        refine ag_iload_n dX5_checkTargets_113 rfl ?_
        refine ag_iconst (v := 5) dX5_checkTargets_114 (by decide) ?_
        refine ag_imul dX5_checkTargets_115 ?_
        refine ag_iadd dX5_checkTargets_116 ?_
        refine ag_bnd (fun p12 hp12 => ?_)
        refine ag_ivVe (c_X5_checkExport o0 o1 ((V8 408 o0 0) + (v7 * 5)) ho0 ho1 hp12) vwC_D (vwC_at (kpC_4 _ ho0)) rfl cs_X5_116 rfl rfl (Nat.le_of_ble_eq_true rfl) ⟨by decide, by decide⟩ ⟨Nat.zero_le _, Nat.zero_le _⟩ dX5_checkTargets_117 ?_
        refine ag_iincL (L' := fun v13 => [some (.ref (bs + posC 4 o0)), some (.ref (bs + posC 8 o1)), some (.int v13), none, none, none, none]) dX5_checkTargets_120 (by decide) rfl (by decide) (fun _ => rfl) (fun v13 => ?_)
        refine ag_goto (tgt := 99) dX5_checkTargets_123 (by decide) ?_
        exact ih10 v13 p12
  · refine ag_loop2 (F := f_X5_checkTargets_L2 o0 o1 kb k1) (L1 := fun v14 V15 => [some (.ref (bs + posC 4 o0)), some (.ref (bs + posC 8 o1)), some (.int v14), none, none, none, none]) (st1 := fun v14 V15 => []) (ws1 := fun v14 V15 => vwC cy bs kb V15) (fun n16 ih17 v14 V15 => ?_) (fun _ _ => rfl) FU 0 V
    rw [f_X5_checkTargets_L2]
    refine ag_iload_n dX5_checkTargets_2 rfl ?_
    refine ag_aload_n dX5_checkTargets_3 rfl ?_
    refine gC_X5_compartments ho0 fl_X5_61 dX5_checkTargets_4 ?_
    refine ag_icmp_ge (tgt := 97) dX5_checkTargets_7 (by decide) (fun h18 => ?_) (fun h18 => ?_)
    · refine ag_drop [2] (L' := [some (.ref (bs + posC 4 o0)), some (.ref (bs + posC 8 o1)), none, none, none, none, none]) rfl ?_
      exact hk2 V15
    · refine ag_iload_n dX5_checkTargets_10 rfl ?_
      refine ag_bipush (v := 8) dX5_checkTargets_11 (by decide) ?_
      refine ag_icmp_ge (tgt := 97) dX5_checkTargets_13 (by decide) (fun h19 => ?_) (fun h19 => ?_)
      · refine ag_drop [2] (L' := [some (.ref (bs + posC 4 o0)), some (.ref (bs + posC 8 o1)), none, none, none, none, none]) rfl ?_
        exact hk2 V15
      · refine ag_aload_n dX5_checkTargets_16 rfl ?_
        refine gC_X10_compartments ho1 fl_X5_67 dX5_checkTargets_17 ?_
        refine ag_iload_n dX5_checkTargets_20 rfl ?_
        refine ag_chk (fun h20 => ?_)
        have qh20 := inb_lt h20
        refine aC_21 (by decide) h20 dX5_checkTargets_21 ?_
        refine ag_astore_n (L' := [some (.ref (bs + posC 4 o0)), some (.ref (bs + posC 8 o1)), some (.int v14), some (.ref (bs + posC 1 ((v14).toNatClampNeg))), none, none, none]) dX5_checkTargets_22 (by decide) rfl ?_
        refine ag_iconst (v := 0) dX5_checkTargets_23 (by decide) ?_
        refine ag_istore (L' := [some (.ref (bs + posC 4 o0)), some (.ref (bs + posC 8 o1)), some (.int v14), some (.ref (bs + posC 1 ((v14).toNatClampNeg))), some (.int 0), none, none]) dX5_checkTargets_24 (by decide) rfl ?_
        refine ag_jn1 (j := 91) (L1 := fun V23 => [some (.ref (bs + posC 4 o0)), some (.ref (bs + posC 8 o1)), some (.int v14), some (.ref (bs + posC 1 ((v14).toNatClampNeg))), none, none, none]) (st1 := fun V23 => []) (ws1 := fun V23 => vwC cy bs kb V23) (fun V23 => ?_) (fun k21 hk22 => ?_)
        · refine ag_iincL (L' := fun v24 => [some (.ref (bs + posC 4 o0)), some (.ref (bs + posC 8 o1)), some (.int v24), some (.ref (bs + posC 1 ((v14).toNatClampNeg))), none, none, none]) dX5_checkTargets_91 (by decide) rfl (by decide) (fun _ => rfl) (fun v24 => ?_)
          refine ag_goto (tgt := 2) dX5_checkTargets_94 (by decide) ?_
          refine ag_drop [3] (L' := [some (.ref (bs + posC 4 o0)), some (.ref (bs + posC 8 o1)), some (.int v24), none, none, none, none]) rfl ?_
          exact ih17 v24 V23
        · refine ag_loop2 (F := f_X5_checkTargets_L26 o0 o1 kb v14 k21) (L1 := fun v25 V26 => [some (.ref (bs + posC 4 o0)), some (.ref (bs + posC 8 o1)), some (.int v14), some (.ref (bs + posC 1 ((v14).toNatClampNeg))), some (.int v25), none, none]) (st1 := fun v25 V26 => []) (ws1 := fun v25 V26 => vwC cy bs kb V26) (fun n27 ih28 v25 V26 => ?_) (fun _ _ => rfl) FU 0 V15
          rw [f_X5_checkTargets_L26]
          refine ag_iload dX5_checkTargets_26 rfl ?_
          refine ag_aload_n dX5_checkTargets_28 rfl ?_
          refine gC_X1_imports (by omega) fl_X5_88 dX5_checkTargets_29 ?_
          refine ag_icmp_ge (tgt := 91) dX5_checkTargets_32 (by decide) (fun h29 => ?_) (fun h29 => ?_)
          · refine ag_drop [4] (L' := [some (.ref (bs + posC 4 o0)), some (.ref (bs + posC 8 o1)), some (.int v14), some (.ref (bs + posC 1 ((v14).toNatClampNeg))), none, none, none]) rfl ?_
            exact hk22 V26
          · refine ag_aload_n dX5_checkTargets_35 rfl ?_
            refine gC_X1_importsText (by omega) fl_X5_98 dX5_checkTargets_36 ?_
            refine ag_iload dX5_checkTargets_39 rfl ?_
            refine ag_iconst (v := 3) dX5_checkTargets_41 (by decide) ?_
            refine ag_imul dX5_checkTargets_42 ?_
            refine ag_iadd dX5_checkTargets_43 ?_
            refine ag_ltI (fun v30 => ?_)
            refine ag_istore (L' := [some (.ref (bs + posC 4 o0)), some (.ref (bs + posC 8 o1)), some (.int v14), some (.ref (bs + posC 1 ((v14).toNatClampNeg))), some (.int v25), some (.int v30), none]) dX5_checkTargets_44 (by decide) rfl ?_
            refine ag_aload_n dX5_checkTargets_46 rfl ?_
            refine ag_iload dX5_checkTargets_47 rfl ?_
            refine ag_bnd (fun p31 hp31 => ?_)
            refine ag_ivIp (c_X5_byteAt o0 v30 ho0 hp31) vwC_D (vwC_at (kpC_4 _ ho0)) rfl cs_X5_53 rfl rfl (Nat.le_of_ble_eq_true rfl) ⟨by decide, by decide⟩ ⟨Nat.zero_le _, Nat.zero_le _⟩ dX5_checkTargets_49 ?_
            refine ag_istore (L' := [some (.ref (bs + posC 4 o0)), some (.ref (bs + posC 8 o1)), some (.int v14), some (.ref (bs + posC 1 ((v14).toNatClampNeg))), some (.int v25), some (.int v30), some (.int p31)]) dX5_checkTargets_52 (by decide) rfl ?_
            refine ag_iload dX5_checkTargets_54 rfl ?_
            refine ag_jn1 (j := 85) (L1 := fun V32 => [some (.ref (bs + posC 4 o0)), some (.ref (bs + posC 8 o1)), some (.int v14), some (.ref (bs + posC 1 ((v14).toNatClampNeg))), some (.int v25), some (.int v30), some (.int p31)]) (st1 := fun V32 => []) (ws1 := fun V32 => vwC cy bs kb V32) (fun V32 => ?_) (fun k33 hk34 => ?_)
            · refine ag_iincL (L' := fun v35 => [some (.ref (bs + posC 4 o0)), some (.ref (bs + posC 8 o1)), some (.int v14), some (.ref (bs + posC 1 ((v14).toNatClampNeg))), some (.int v35), some (.int v30), some (.int p31)]) dX5_checkTargets_85 (by decide) rfl (by decide) (fun _ => rfl) (fun v35 => ?_)
              refine ag_goto (tgt := 26) dX5_checkTargets_88 (by decide) ?_
              refine ag_drop [5, 6] (L' := [some (.ref (bs + posC 4 o0)), some (.ref (bs + posC 8 o1)), some (.int v14), some (.ref (bs + posC 1 ((v14).toNatClampNeg))), some (.int v35), none, none]) rfl ?_
              exact ih28 v35 V32
            · refine ag_if_ne (tgt := 71) dX5_checkTargets_56 (by decide) (fun h36 => ?_) (fun h36 => ?_)
              · refine ag_iload dX5_checkTargets_71 rfl ?_
                refine ag_iconst (v := 4) dX5_checkTargets_73 (by decide) ?_
                refine ag_icmp_ne (tgt := 85) dX5_checkTargets_74 (by decide) (fun h37 => ?_) (fun h37 => ?_)
                · exact hk34 V26
                · refine ag_aload_n dX5_checkTargets_77 rfl ?_
                  refine ag_iload dX5_checkTargets_78 rfl ?_
                  refine ag_iconst (v := 1) dX5_checkTargets_80 (by decide) ?_
                  refine ag_iadd dX5_checkTargets_81 ?_
                  refine ag_bnd (fun p38 hp38 => ?_)
                  refine ag_ivVe (c_X5_checkCompartment o0 (v30 + 1) ho0 hp38) vwC_D (vwC_at (kpC_4 _ ho0)) rfl cs_X5_120 rfl rfl (Nat.le_of_ble_eq_true rfl) ⟨by decide, by decide⟩ ⟨Nat.zero_le _, Nat.zero_le _⟩ dX5_checkTargets_82 ?_
                  exact hk34 p38
              · refine ag_aload_n dX5_checkTargets_59 rfl ?_
                refine ag_aload_n dX5_checkTargets_60 rfl ?_
                refine ag_iload dX5_checkTargets_61 rfl ?_
                refine ag_iconst (v := 1) dX5_checkTargets_63 (by decide) ?_
                refine ag_iadd dX5_checkTargets_64 ?_
                refine ag_bnd (fun p39 hp39 => ?_)
                refine ag_ivVe (c_X5_checkExport o0 o1 (v30 + 1) ho0 ho1 hp39) vwC_D (vwC_at (kpC_4 _ ho0)) rfl cs_X5_116 rfl rfl (Nat.le_of_ble_eq_true rfl) ⟨by decide, by decide⟩ ⟨Nat.zero_le _, Nat.zero_le _⟩ dX5_checkTargets_65 ?_
                refine ag_goto (tgt := 85) dX5_checkTargets_68 (by decide) ?_
                exact hk34 p39
