set_option maxRecDepth 100000 in
set_option maxHeartbeats 4000000 in
theorem c_X0_set {l : Launch} {D : va_G} {cy : Nat → ClassId} {bs kb : Nat} {V : HV} (o0 : Nat) (x1 : Int32) (x2 : Int32) (x3 : Int32) (x4 : Int32) (x5 : Int32) (x6 : Bool) (ho0 : o0 < 583) {z : HV} (hz : f_X0_set kb o0 x1 x2 x3 x4 x5 x6 V = z) : CM l (aG 737 bs) D (tyL cy) (vwC cy bs kb) yX0_set cX0_set 7 none 0 0 tvV [.ref (bs + posC 0 o0), .int x1, .int x2, .int x3, .int x4, .int x5, .int (b2i x6)] V ((), z) := by
  refine cm_of vwC_D (by decide +kernel) (own := RX0) rfl (Nat.le_of_ble_eq_true rfl) (L := [some (.ref (bs + posC 0 o0)), some (.int x1), some (.int x2), some (.int x3), some (.int x4), some (.int x5), some (.int (b2i x6))]) rfl hz (fun Γ => ?_)
  unfold f_X0_set
  refine ag_aload_n dX0_set_0 rfl ?_
  refine ag_iload_n dX0_set_1 rfl ?_
  refine pC_X0_cursor ho0 fl_X0_9 dX0_set_2 ?_
  refine ag_ltV (fun V1 => ?_)
  refine ag_aload_n dX0_set_5 rfl ?_
  refine ag_iload_n dX0_set_6 rfl ?_
  refine pC_X0_base ho0 fl_X0_15 dX0_set_7 ?_
  refine ag_ltV (fun V2 => ?_)
  refine ag_aload_n dX0_set_10 rfl ?_
  refine ag_iload_n dX0_set_11 rfl ?_
  refine pC_X0_top ho0 fl_X0_18 dX0_set_12 ?_
  refine ag_ltV (fun V3 => ?_)
  refine ag_aload_n dX0_set_15 rfl ?_
  refine ag_iload dX0_set_16 rfl ?_
  refine pC_X0_perms ho0 fl_X0_21 dX0_set_18 ?_
  refine ag_ltV (fun V4 => ?_)
  refine ag_aload_n dX0_set_21 rfl ?_
  refine ag_iload dX0_set_22 rfl ?_
  refine pC_X0_type ho0 fl_X0_24 dX0_set_24 ?_
  refine ag_ltV (fun V5 => ?_)
  refine ag_aload_n dX0_set_27 rfl ?_
  refine ag_iload dX0_set_28 rfl ?_
  refine pC_X0_tagged (x := x6) ho0 fl_X0_27 dX0_set_30 ?_
  refine ag_ltV (fun V6 => ?_)
  exact ag_vre dX0_set_33
set_option maxRecDepth 100000 in
set_option maxHeartbeats 4000000 in
theorem c_X0_copy {l : Launch} {D : va_G} {cy : Nat → ClassId} {bs kb : Nat} {V : HV} (o0 : Nat) (o1 : Nat) (ho0 : o0 < 583) (ho1 : o1 < 583) {z : HV} (hz : f_X0_copy kb o0 o1 V = z) : CM l (aG 737 bs) D (tyL cy) (vwC cy bs kb) yX0_copy cX0_copy 2 none 1 26 tvV [.ref (bs + posC 0 o0), .ref (bs + posC 0 o1)] V ((), z) := by
  refine cm_of vwC_D (by decide +kernel) (own := RX0) rfl (Nat.le_of_ble_eq_true rfl) (L := [some (.ref (bs + posC 0 o0)), some (.ref (bs + posC 0 o1))]) rfl hz (fun Γ => ?_)
  unfold f_X0_copy
  refine ag_aload_n dX0_copy_0 rfl ?_
  refine ag_aload_n dX0_copy_1 rfl ?_
  refine gC_X0_cursor ho1 fl_X0_9 dX0_copy_2 ?_
  refine ag_aload_n dX0_copy_5 rfl ?_
  refine gC_X0_base ho1 fl_X0_15 dX0_copy_6 ?_
  refine ag_aload_n dX0_copy_9 rfl ?_
  refine gC_X0_top ho1 fl_X0_18 dX0_copy_10 ?_
  refine ag_aload_n dX0_copy_13 rfl ?_
  refine gC_X0_perms ho1 fl_X0_21 dX0_copy_14 ?_
  refine ag_aload_n dX0_copy_17 rfl ?_
  refine gC_X0_type ho1 fl_X0_24 dX0_copy_18 ?_
  refine ag_aload_n dX0_copy_21 rfl ?_
  refine gC_X0_tagged ho1 fl_X0_27 dX0_copy_22 ?_
  refine ag_ivVe (c_X0_set o0 (V 0 o1 0) (V 1 o1 0) (V 2 o1 0) (V 3 o1 0) (V 4 o1 0) (i2b (V 5 o1 0)) ho0 rfl) vwC_D (vwC_at (kpC_0 _ ho0)) rfl cs_X0_31 rfl rfl (Nat.le_of_ble_eq_true rfl) ⟨by decide, by decide⟩ ⟨Nat.zero_le _, Nat.zero_le _⟩ dX0_copy_25 ?_
  refine ag_ltV (fun V1 => ?_)
  exact ag_vre dX0_copy_28
set_option maxRecDepth 100000 in
set_option maxHeartbeats 4000000 in
theorem c_X0_number {l : Launch} {D : va_G} {cy : Nat → ClassId} {bs kb : Nat} {V : HV} (o0 : Nat) (x1 : Int32) (ho0 : o0 < 583) {z : HV} (hz : f_X0_number kb o0 x1 V = z) : CM l (aG 737 bs) D (tyL cy) (vwC cy bs kb) yX0_number cX0_number 2 none 1 26 tvV [.ref (bs + posC 0 o0), .int x1] V ((), z) := by
  refine cm_of vwC_D (by decide +kernel) (own := RX0) rfl (Nat.le_of_ble_eq_true rfl) (L := [some (.ref (bs + posC 0 o0)), some (.int x1)]) rfl hz (fun Γ => ?_)
  unfold f_X0_number
  refine ag_aload_n dX0_number_0 rfl ?_
  refine ag_iload_n dX0_number_1 rfl ?_
  refine ag_iconst (v := 0) dX0_number_2 (by decide) ?_
  refine ag_iconst (v := 0) dX0_number_3 (by decide) ?_
  refine ag_iconst (v := 0) dX0_number_4 (by decide) ?_
  refine ag_iconst (v := 0) dX0_number_5 (by decide) ?_
  refine ag_iconst (v := 0) dX0_number_6 (by decide) ?_
  refine ag_ivVe (c_X0_set o0 x1 0 0 0 0 false ho0 rfl) vwC_D (vwC_at (kpC_0 _ ho0)) rfl cs_X0_31 rfl rfl (Nat.le_of_ble_eq_true rfl) ⟨by decide, by decide⟩ ⟨Nat.zero_le _, Nat.zero_le _⟩ dX0_number_7 ?_
  refine ag_ltV (fun V1 => ?_)
  exact ag_vre dX0_number_10
set_option maxRecDepth 100000 in
set_option maxHeartbeats 4000000 in
theorem c_X0_clear {l : Launch} {D : va_G} {cy : Nat → ClassId} {bs kb : Nat} {V : HV} (o0 : Nat) (ho0 : o0 < 583) {z : HV} (hz : f_X0_clear kb o0 V = z) : CM l (aG 737 bs) D (tyL cy) (vwC cy bs kb) yX0_clear cX0_clear 1 none 1 26 tvV [.ref (bs + posC 0 o0)] V ((), z) := by
  refine cm_of vwC_D (by decide +kernel) (own := RX0) rfl (Nat.le_of_ble_eq_true rfl) (L := [some (.ref (bs + posC 0 o0))]) rfl hz (fun Γ => ?_)
  unfold f_X0_clear
  refine ag_aload_n dX0_clear_0 rfl ?_
  refine ag_iconst (v := 0) dX0_clear_1 (by decide) ?_
  refine ag_iconst (v := 0) dX0_clear_2 (by decide) ?_
  refine ag_iconst (v := 0) dX0_clear_3 (by decide) ?_
  refine ag_iconst (v := 0) dX0_clear_4 (by decide) ?_
  refine ag_iconst (v := 0) dX0_clear_5 (by decide) ?_
  refine ag_iconst (v := 0) dX0_clear_6 (by decide) ?_
  refine ag_ivVe (c_X0_set o0 0 0 0 0 0 false ho0 rfl) vwC_D (vwC_at (kpC_0 _ ho0)) rfl cs_X0_31 rfl rfl (Nat.le_of_ble_eq_true rfl) ⟨by decide, by decide⟩ ⟨Nat.zero_le _, Nat.zero_le _⟩ dX0_clear_7 ?_
  refine ag_ltV (fun V1 => ?_)
  exact ag_vre dX0_clear_10
set_option maxRecDepth 100000 in
set_option maxHeartbeats 4000000 in
theorem c_X0_has {l : Launch} {D : va_G} {cy : Nat → ClassId} {bs kb : Nat} {V : HV} (o0 : Nat) (x1 : Int32) (ho0 : o0 < 583) {z : Bool} (hz : f_X0_has kb o0 x1 V = z) : CM l (aG 737 bs) D (tyL cy) (vwC cy bs kb) yX0_has cX0_has 2 (some .boolean) 0 0 tvZ [.ref (bs + posC 0 o0), .int x1] V (z, V) := by
  refine cm_of vwC_D (by decide +kernel) (own := RX0) rfl (Nat.le_of_ble_eq_true rfl) (L := [some (.ref (bs + posC 0 o0)), some (.int x1)]) rfl hz (fun Γ => ?_)
  unfold f_X0_has
  refine ag_aload_n dX0_has_0 rfl ?_
  refine gC_X0_perms ho0 fl_X0_21 dX0_has_1 ?_
  refine ag_iload_n dX0_has_4 rfl ?_
  refine ag_iand dX0_has_5 ?_
  refine ag_iload_n dX0_has_6 rfl ?_
  refine ag_dv (j := 15) (L1 := fun _ => [some (.ref (bs + posC 0 o0)), some (.int x1)]) (st1 := fun v1 => [.int (b2i v1)]) (ws1 := fun _ => vwC cy bs kb V) (fun v1 => ?_) (fun k3 hk2 => ?_)
  · exact ag_zrp (x := v1) dX0_has_15
  · refine ag_icmp_ne_v (tgt := 14) dX0_has_7 (by decide) (fun h4 => ?_) (fun h4 => ?_)
    · refine ag_iconst (v := 0) dX0_has_14 (by decide) ?_
      exact hk2 false
    · refine ag_iconst (v := 1) dX0_has_10 (by decide) ?_
      refine ag_goto (tgt := 15) dX0_has_11 (by decide) ?_
      exact hk2 true
set_option maxRecDepth 100000 in
set_option maxHeartbeats 4000000 in
theorem c_X0_isPlainWith {l : Launch} {D : va_G} {cy : Nat → ClassId} {bs kb : Nat} {V : HV} (o0 : Nat) (x1 : Int32) (ho0 : o0 < 583) {z : Bool} (hz : f_X0_isPlainWith kb o0 x1 V = z) : CM l (aG 737 bs) D (tyL cy) (vwC cy bs kb) yX0_isPlainWith cX0_isPlainWith 2 (some .boolean) 0 0 tvZ [.ref (bs + posC 0 o0), .int x1] V (z, V) := by
  refine cm_of vwC_D (by decide +kernel) (own := RX0) rfl (Nat.le_of_ble_eq_true rfl) (L := [some (.ref (bs + posC 0 o0)), some (.int x1)]) rfl hz (fun Γ => ?_)
  unfold f_X0_isPlainWith
  refine ag_aload_n dX0_isPlainWith_0 rfl ?_
  refine gC_X0_tagged ho0 fl_X0_27 dX0_isPlainWith_1 ?_
  refine ag_dv (j := 29) (L1 := fun _ => [some (.ref (bs + posC 0 o0)), some (.int x1)]) (st1 := fun v1 => [.int (b2i v1)]) (ws1 := fun _ => vwC cy bs kb V) (fun v1 => ?_) (fun k3 hk2 => ?_)
  · exact ag_zrp (x := v1) dX0_isPlainWith_29
  · refine ag_bif_eq_v (tgt := 28) dX0_isPlainWith_4 (by decide) (fun h4 => ?_) (fun h4 => ?_)
    · refine ag_iconst (v := 0) dX0_isPlainWith_28 (by decide) ?_
      exact hk2 false
    · refine ag_aload_n dX0_isPlainWith_7 rfl ?_
      refine gC_X0_type ho0 fl_X0_24 dX0_isPlainWith_8 ?_
      refine ag_if_ne_v (tgt := 28) dX0_isPlainWith_11 (by decide) (fun h5 => ?_) (fun h5 => ?_)
      · refine ag_iconst (v := 0) dX0_isPlainWith_28 (by decide) ?_
        exact hk2 false
      · refine ag_aload_n dX0_isPlainWith_14 rfl ?_
        refine gC_X0_perms ho0 fl_X0_21 dX0_isPlainWith_15 ?_
        refine ag_iload_n dX0_isPlainWith_18 rfl ?_
        refine ag_iand dX0_isPlainWith_19 ?_
        refine ag_iload_n dX0_isPlainWith_20 rfl ?_
        refine ag_icmp_ne_v (tgt := 28) dX0_isPlainWith_21 (by decide) (fun h6 => ?_) (fun h6 => ?_)
        · refine ag_iconst (v := 0) dX0_isPlainWith_28 (by decide) ?_
          exact hk2 false
        · refine ag_iconst (v := 1) dX0_isPlainWith_24 (by decide) ?_
          refine ag_goto (tgt := 29) dX0_isPlainWith_25 (by decide) ?_
          exact hk2 true
set_option maxRecDepth 100000 in
set_option maxHeartbeats 4000000 in
theorem c_X0_holds {l : Launch} {D : va_G} {cy : Nat → ClassId} {bs kb : Nat} {V : HV} (o0 : Nat) (x1 : Int32) (x2 : Int32) (ho0 : o0 < 583) {z : Bool} (hz : f_X0_holds kb o0 x1 x2 V = z) : CM l (aG 737 bs) D (tyL cy) (vwC cy bs kb) yX0_holds cX0_holds 5 (some .boolean) 0 0 tvZ [.ref (bs + posC 0 o0), .int x1, .int x2] V (z, V) := by
  refine cm_of vwC_D (by decide +kernel) (own := RX0) rfl (Nat.le_of_ble_eq_true rfl) (L := [some (.ref (bs + posC 0 o0)), some (.int x1), some (.int x2), none, none]) rfl hz (fun Γ => ?_)
  unfold f_X0_holds
  refine ag_iload_n dX0_holds_0 rfl ?_
  refine ag_i2l dX0_holds_1 ?_
  refine ag_ldc2 kc_X0_35 dX0_holds_2 ?_
  refine ag_land dX0_holds_5 ?_
  refine ag_ltJ (fun v1 => ?_)
  refine ag_lstore_n (L' := [some (.ref (bs + posC 0 o0)), some (.int x1), some (.int x2), some (.long v1), none]) dX0_holds_6 (by decide) rfl ?_
  refine ag_lload_n dX0_holds_7 rfl ?_
  refine ag_aload_n dX0_holds_8 rfl ?_
  refine gC_X0_base ho0 fl_X0_15 dX0_holds_9 ?_
  refine ag_i2l dX0_holds_12 ?_
  refine ag_ldc2 kc_X0_35 dX0_holds_13 ?_
  refine ag_land dX0_holds_16 ?_
  refine ag_lcmp dX0_holds_17 ?_
  refine ag_dv (j := 43) (L1 := fun _ => [some (.ref (bs + posC 0 o0)), some (.int x1), some (.int x2), some (.long v1), none]) (st1 := fun v2 => [.int (b2i v2)]) (ws1 := fun _ => vwC cy bs kb V) (fun v2 => ?_) (fun k4 hk3 => ?_)
  · exact ag_zrp (x := v2) dX0_holds_43
  · refine ag_if_lt_v (tgt := 42) dX0_holds_18 (by decide) (fun h5 => ?_) (fun h5 => ?_)
    · refine ag_iconst (v := 0) dX0_holds_42 (by decide) ?_
      exact hk3 false
    · refine ag_lload_n dX0_holds_21 rfl ?_
      refine ag_iload_n dX0_holds_22 rfl ?_
      refine ag_i2l dX0_holds_23 ?_
      refine ag_ladd dX0_holds_24 ?_
      refine ag_aload_n dX0_holds_25 rfl ?_
      refine gC_X0_top ho0 fl_X0_18 dX0_holds_26 ?_
      refine ag_i2l dX0_holds_29 ?_
      refine ag_ldc2 kc_X0_35 dX0_holds_30 ?_
      refine ag_land dX0_holds_33 ?_
      refine ag_lcmp dX0_holds_34 ?_
      refine ag_if_gt_v (tgt := 42) dX0_holds_35 (by decide) (fun h6 => ?_) (fun h6 => ?_)
      · refine ag_iconst (v := 0) dX0_holds_42 (by decide) ?_
        exact hk3 false
      · refine ag_iconst (v := 1) dX0_holds_38 (by decide) ?_
        refine ag_goto (tgt := 43) dX0_holds_39 (by decide) ?_
        exact hk3 true
set_option maxRecDepth 100000 in
set_option maxHeartbeats 4000000 in
theorem c_X0_faultFor {l : Launch} {D : va_G} {cy : Nat → ClassId} {bs kb : Nat} {V : HV} (o0 : Nat) (x1 : Int32) (x2 : Int32) (x3 : Int32) (ho0 : o0 < 583) {z : Int32} (hz : f_X0_faultFor kb o0 x1 x2 x3 V = z) : CM l (aG 737 bs) D (tyL cy) (vwC cy bs kb) yX0_faultFor cX0_faultFor 4 (some .int) 1 24 tvI [.ref (bs + posC 0 o0), .int x1, .int x2, .int x3] V (z, V) := by
  refine cm_of vwC_D (by decide +kernel) (own := RX0) rfl (Nat.le_of_ble_eq_true rfl) (L := [some (.ref (bs + posC 0 o0)), some (.int x1), some (.int x2), some (.int x3)]) rfl hz (fun Γ => ?_)
  unfold f_X0_faultFor
  refine ag_aload_n dX0_faultFor_0 rfl ?_
  refine gC_X0_tagged ho0 fl_X0_27 dX0_faultFor_1 ?_
  refine ag_bif_ne (tgt := 9) dX0_faultFor_4 (by decide) (fun h1 => ?_) (fun h1 => ?_)
  · refine ag_aload_n dX0_faultFor_9 rfl ?_
    refine gC_X0_type ho0 fl_X0_24 dX0_faultFor_10 ?_
    refine ag_if_eq (tgt := 18) dX0_faultFor_13 (by decide) (fun h2 => ?_) (fun h2 => ?_)
    · refine ag_aload_n dX0_faultFor_18 rfl ?_
      refine ag_iload_n dX0_faultFor_19 rfl ?_
      refine ag_ivZp (c_X0_has o0 x1 ho0 rfl) vwC_D (vwC_at (kpC_0 _ ho0)) rfl cs_X0_37 rfl rfl (Nat.le_of_ble_eq_true rfl) ⟨by decide, by decide⟩ ⟨Nat.zero_le _, Nat.zero_le _⟩ dX0_faultFor_20 ?_
      refine ag_ltZ (fun v3 => ?_)
      refine ag_bif_ne (tgt := 28) dX0_faultFor_23 (by decide) (fun h4 => ?_) (fun h4 => ?_)
      · refine ag_aload_n dX0_faultFor_28 rfl ?_
        refine ag_iload_n dX0_faultFor_29 rfl ?_
        refine ag_iload_n dX0_faultFor_30 rfl ?_
        refine ag_ivZp (c_X0_holds o0 x2 x3 ho0 rfl) vwC_D (vwC_at (kpC_0 _ ho0)) rfl cs_X0_41 rfl rfl (Nat.le_of_ble_eq_true rfl) ⟨by decide, by decide⟩ ⟨Nat.zero_le _, Nat.zero_le _⟩ dX0_faultFor_31 ?_
        refine ag_ltZ (fun v5 => ?_)
        refine ag_bif_ne (tgt := 39) dX0_faultFor_34 (by decide) (fun h6 => ?_) (fun h6 => ?_)
        · refine ag_iload_n dX0_faultFor_39 rfl ?_
          refine ag_iload_n dX0_faultFor_40 rfl ?_
          refine ag_iconst (v := 1) dX0_faultFor_41 (by decide) ?_
          refine ag_isub dX0_faultFor_42 ?_
          refine ag_iand dX0_faultFor_43 ?_
          refine ag_dv (j := 52) (L1 := fun _ => [some (.ref (bs + posC 0 o0)), some (.int x1), some (.int x2), some (.int x3)]) (st1 := fun v7 => [.int v7]) (ws1 := fun _ => vwC cy bs kb V) (fun v7 => ?_) (fun k9 hk8 => ?_)
          · exact ag_irp dX0_faultFor_52
          · refine ag_if_ne_v (tgt := 51) dX0_faultFor_44 (by decide) (fun h10 => ?_) (fun h10 => ?_)
            · refine ag_iconst (v := 5) dX0_faultFor_51 (by decide) ?_
              exact hk8 5
            · refine ag_iconst (v := 0) dX0_faultFor_47 (by decide) ?_
              refine ag_goto (tgt := 52) dX0_faultFor_48 (by decide) ?_
              exact hk8 0
        · refine ag_iconst (v := 4) dX0_faultFor_37 (by decide) ?_
          exact ag_irp dX0_faultFor_38
      · refine ag_iconst (v := 3) dX0_faultFor_26 (by decide) ?_
        exact ag_irp dX0_faultFor_27
    · refine ag_iconst (v := 2) dX0_faultFor_16 (by decide) ?_
      exact ag_irp dX0_faultFor_17
  · refine ag_iconst (v := 1) dX0_faultFor_7 (by decide) ?_
    exact ag_irp dX0_faultFor_8
set_option maxRecDepth 100000 in
set_option maxHeartbeats 4000000 in
theorem c_X0_moveTo {l : Launch} {D : va_G} {cy : Nat → ClassId} {bs kb : Nat} {V : HV} (o0 : Nat) (x1 : Int32) (ho0 : o0 < 583) {z : HV} (hz : f_X0_moveTo kb o0 x1 V = z) : CM l (aG 737 bs) D (tyL cy) (vwC cy bs kb) yX0_moveTo cX0_moveTo 2 none 0 0 tvV [.ref (bs + posC 0 o0), .int x1] V ((), z) := by
  refine cm_of vwC_D (by decide +kernel) (own := RX0) rfl (Nat.le_of_ble_eq_true rfl) (L := [some (.ref (bs + posC 0 o0)), some (.int x1)]) rfl hz (fun Γ => ?_)
  unfold f_X0_moveTo
  refine ag_aload_n dX0_moveTo_0 rfl ?_
  refine ag_iload_n dX0_moveTo_1 rfl ?_
  refine pC_X0_cursor ho0 fl_X0_9 dX0_moveTo_2 ?_
  refine ag_ltV (fun V1 => ?_)
  refine ag_aload_n dX0_moveTo_5 rfl ?_
  refine ag_dup dX0_moveTo_6 rfl ?_
  refine gC_X0_tagged ho0 fl_X0_27 dX0_moveTo_7 ?_
  refine ag_aload_n dX0_moveTo_10 rfl ?_
  refine gC_X0_type ho0 fl_X0_24 dX0_moveTo_11 ?_
  refine ag_dv (j := 22) (L1 := fun _ => [some (.ref (bs + posC 0 o0)), some (.int x1)]) (st1 := fun v2 => [.int (b2i v2), .int (b2i (i2b (V1 5 o0 0))), .ref (bs + posC 0 o0)]) (ws1 := fun _ => vwC cy bs kb V1) (fun v2 => ?_) (fun k5 hk3 => ?_)
  · refine ag_zand (a := (i2b (V1 5 o0 0))) (b := v2) dX0_moveTo_22 ?_
    refine pC_X0_tagged (x := ((i2b (V1 5 o0 0)) && v2)) ho0 fl_X0_27 dX0_moveTo_23 ?_
    refine ag_ltV (fun V4 => ?_)
    exact ag_vre dX0_moveTo_26
  · refine ag_if_ne_v (tgt := 21) dX0_moveTo_14 (by decide) (fun h6 => ?_) (fun h6 => ?_)
    · refine ag_iconst (v := 0) dX0_moveTo_21 (by decide) ?_
      exact hk3 false
    · refine ag_iconst (v := 1) dX0_moveTo_17 (by decide) ?_
      refine ag_goto (tgt := 22) dX0_moveTo_18 (by decide) ?_
      exact hk3 true
set_option maxRecDepth 100000 in
set_option maxHeartbeats 4000000 in
theorem c_X11_unsigned {l : Launch} {D : va_G} {cy : Nat → ClassId} {bs kb : Nat} {V : HV} (x0 : Int32) {z : Int64} (hz : f_X11_unsigned x0 = z) : CM l (aG 737 bs) D (tyL cy) (vwC cy bs kb) yX11_unsigned cX11_unsigned 1 (some .long) 0 0 tvJ [.int x0] V (z, V) := by
  refine cm_of vwC_D (by decide +kernel) (own := RX11) rfl (Nat.le_of_ble_eq_true rfl) (L := [some (.int x0)]) rfl hz (fun Γ => ?_)
  unfold f_X11_unsigned
  refine ag_iload_n dX11_unsigned_0 rfl ?_
  refine ag_i2l dX11_unsigned_1 ?_
  refine ag_ldc2 kc_X11_145 dX11_unsigned_2 ?_
  refine ag_land dX11_unsigned_5 ?_
  exact ag_lrp dX11_unsigned_6
set_option maxRecDepth 100000 in
set_option maxHeartbeats 4000000 in
theorem c_X0_narrow {l : Launch} {D : va_G} {cy : Nat → ClassId} {bs kb : Nat} {V : HV} (o0 : Nat) (x1 : Int64) (ho0 : o0 < 583) {z : HV} (hz : f_X0_narrow kb o0 x1 V = z) : CM l (aG 737 bs) D (tyL cy) (vwC cy bs kb) yX0_narrow cX0_narrow 7 none 1 20 tvV [.ref (bs + posC 0 o0), .long x1] V ((), z) := by
  refine cm_of vwC_D (by decide +kernel) (own := RX0) rfl (Nat.le_of_ble_eq_true rfl) (L := [some (.ref (bs + posC 0 o0)), some (.long x1), none, none, none, none, none]) rfl hz (fun Γ => ?_)
  unfold f_X0_narrow
  refine ag_aload_n dX0_narrow_0 rfl ?_
  refine gC_X0_cursor ho0 fl_X0_9 dX0_narrow_1 ?_
  refine ag_inJp (c_X11_unsigned (V 0 o0 0)  rfl) vwC_D cs_X0_45 rfl rfl (Nat.le_of_ble_eq_true rfl) ⟨by decide, by decide⟩ ⟨Nat.zero_le _, Nat.zero_le _⟩ dX0_narrow_4 ?_
  refine ag_ltJ (fun v1 => ?_)
  refine ag_lstore_n (L' := [some (.ref (bs + posC 0 o0)), some (.long x1), none, some (.long v1), none, none, none]) dX0_narrow_7 (by decide) rfl ?_
  refine ag_lload_n dX0_narrow_8 rfl ?_
  refine ag_lload_n dX0_narrow_9 rfl ?_
  refine ag_ladd dX0_narrow_10 ?_
  refine ag_ltJ (fun v2 => ?_)
  refine ag_lstore (L' := [some (.ref (bs + posC 0 o0)), some (.long x1), none, some (.long v1), none, some (.long v2), none]) dX0_narrow_11 (by decide) rfl ?_
  refine ag_aload_n dX0_narrow_13 rfl ?_
  refine ag_dup dX0_narrow_14 rfl ?_
  refine gC_X0_tagged ho0 fl_X0_27 dX0_narrow_15 ?_
  refine ag_aload_n dX0_narrow_18 rfl ?_
  refine gC_X0_type ho0 fl_X0_24 dX0_narrow_19 ?_
  refine ag_dv (j := 55) (L1 := fun _ => [some (.ref (bs + posC 0 o0)), some (.long x1), none, some (.long v1), none, some (.long v2), none]) (st1 := fun v3 => [.int (b2i v3), .int (b2i (i2b (V 5 o0 0))), .ref (bs + posC 0 o0)]) (ws1 := fun _ => vwC cy bs kb V) (fun v3 => ?_) (fun k8 hk4 => ?_)
  · refine ag_zand (a := (i2b (V 5 o0 0))) (b := v3) dX0_narrow_55 ?_
    refine pC_X0_tagged (x := ((i2b (V 5 o0 0)) && v3)) ho0 fl_X0_27 dX0_narrow_56 ?_
    refine ag_ltV (fun V5 => ?_)
    refine ag_aload_n dX0_narrow_59 rfl ?_
    refine ag_aload_n dX0_narrow_60 rfl ?_
    refine gC_X0_cursor ho0 fl_X0_9 dX0_narrow_61 ?_
    refine pC_X0_base ho0 fl_X0_15 dX0_narrow_64 ?_
    refine ag_ltV (fun V6 => ?_)
    refine ag_aload_n dX0_narrow_67 rfl ?_
    refine ag_lload dX0_narrow_68 rfl ?_
    refine ag_l2i dX0_narrow_70 ?_
    refine pC_X0_top ho0 fl_X0_18 dX0_narrow_71 ?_
    refine ag_ltV (fun V7 => ?_)
    exact ag_vre dX0_narrow_74
  · refine ag_if_ne_v (tgt := 54) dX0_narrow_22 (by decide) (fun h9 => ?_) (fun h9 => ?_)
    · refine ag_iconst (v := 0) dX0_narrow_54 (by decide) ?_
      exact hk4 false
    · refine ag_lload_n dX0_narrow_25 rfl ?_
      refine ag_aload_n dX0_narrow_26 rfl ?_
      refine gC_X0_base ho0 fl_X0_15 dX0_narrow_27 ?_
      refine ag_inJp (c_X11_unsigned (V 1 o0 0)  rfl) vwC_D cs_X0_45 rfl rfl (Nat.le_of_ble_eq_true rfl) ⟨by decide, by decide⟩ ⟨Nat.zero_le _, Nat.zero_le _⟩ dX0_narrow_30 ?_
      refine ag_lcmp dX0_narrow_33 ?_
      refine ag_if_lt_v (tgt := 54) dX0_narrow_34 (by decide) (fun h10 => ?_) (fun h10 => ?_)
      · refine ag_iconst (v := 0) dX0_narrow_54 (by decide) ?_
        exact hk4 false
      · refine ag_lload dX0_narrow_37 rfl ?_
        refine ag_aload_n dX0_narrow_39 rfl ?_
        refine gC_X0_top ho0 fl_X0_18 dX0_narrow_40 ?_
        refine ag_inJp (c_X11_unsigned (V 2 o0 0)  rfl) vwC_D cs_X0_45 rfl rfl (Nat.le_of_ble_eq_true rfl) ⟨by decide, by decide⟩ ⟨Nat.zero_le _, Nat.zero_le _⟩ dX0_narrow_43 ?_
        refine ag_lcmp dX0_narrow_46 ?_
        refine ag_if_gt_v (tgt := 54) dX0_narrow_47 (by decide) (fun h11 => ?_) (fun h11 => ?_)
        · refine ag_iconst (v := 0) dX0_narrow_54 (by decide) ?_
          exact hk4 false
        · refine ag_iconst (v := 1) dX0_narrow_50 (by decide) ?_
          refine ag_goto (tgt := 55) dX0_narrow_51 (by decide) ?_
          exact hk4 true
set_option maxRecDepth 100000 in
set_option maxHeartbeats 4000000 in
theorem c_X0_limit {l : Launch} {D : va_G} {cy : Nat → ClassId} {bs kb : Nat} {V : HV} (o0 : Nat) (x1 : Int32) (ho0 : o0 < 583) {z : HV} (hz : f_X0_limit kb o0 x1 V = z) : CM l (aG 737 bs) D (tyL cy) (vwC cy bs kb) yX0_limit cX0_limit 2 none 0 0 tvV [.ref (bs + posC 0 o0), .int x1] V ((), z) := by
  refine cm_of vwC_D (by decide +kernel) (own := RX0) rfl (Nat.le_of_ble_eq_true rfl) (L := [some (.ref (bs + posC 0 o0)), some (.int x1)]) rfl hz (fun Γ => ?_)
  unfold f_X0_limit
  refine ag_aload_n dX0_limit_0 rfl ?_
  refine ag_dup dX0_limit_1 rfl ?_
  refine gC_X0_perms ho0 fl_X0_21 dX0_limit_2 ?_
  refine ag_iload_n dX0_limit_5 rfl ?_
  refine ag_iand dX0_limit_6 ?_
  refine pC_X0_perms ho0 fl_X0_21 dX0_limit_7 ?_
  refine ag_ltV (fun V1 => ?_)
  refine ag_aload_n dX0_limit_10 rfl ?_
  refine ag_dup dX0_limit_11 rfl ?_
  refine gC_X0_tagged ho0 fl_X0_27 dX0_limit_12 ?_
  refine ag_aload_n dX0_limit_15 rfl ?_
  refine gC_X0_type ho0 fl_X0_24 dX0_limit_16 ?_
  refine ag_dv (j := 27) (L1 := fun _ => [some (.ref (bs + posC 0 o0)), some (.int x1)]) (st1 := fun v2 => [.int (b2i v2), .int (b2i (i2b (V1 5 o0 0))), .ref (bs + posC 0 o0)]) (ws1 := fun _ => vwC cy bs kb V1) (fun v2 => ?_) (fun k5 hk3 => ?_)
  · refine ag_zand (a := (i2b (V1 5 o0 0))) (b := v2) dX0_limit_27 ?_
    refine pC_X0_tagged (x := ((i2b (V1 5 o0 0)) && v2)) ho0 fl_X0_27 dX0_limit_28 ?_
    refine ag_ltV (fun V4 => ?_)
    exact ag_vre dX0_limit_31
  · refine ag_if_ne_v (tgt := 26) dX0_limit_19 (by decide) (fun h6 => ?_) (fun h6 => ?_)
    · refine ag_iconst (v := 0) dX0_limit_26 (by decide) ?_
      exact hk3 false
    · refine ag_iconst (v := 1) dX0_limit_22 (by decide) ?_
      refine ag_goto (tgt := 27) dX0_limit_23 (by decide) ?_
      exact hk3 true
set_option maxRecDepth 100000 in
set_option maxHeartbeats 4000000 in
theorem c_X0_canSeal {l : Launch} {D : va_G} {cy : Nat → ClassId} {bs kb : Nat} {V : HV} (o0 : Nat) (ho0 : o0 < 583) {z : Bool} (hz : f_X0_canSeal kb o0 V = z) : CM l (aG 737 bs) D (tyL cy) (vwC cy bs kb) yX0_canSeal cX0_canSeal 1 (some .boolean) 1 24 tvZ [.ref (bs + posC 0 o0)] V (z, V) := by
  refine cm_of vwC_D (by decide +kernel) (own := RX0) rfl (Nat.le_of_ble_eq_true rfl) (L := [some (.ref (bs + posC 0 o0))]) rfl hz (fun Γ => ?_)
  unfold f_X0_canSeal
  refine ag_aload_n dX0_canSeal_0 rfl ?_
  refine ag_bipush (v := 32) dX0_canSeal_1 (by decide) ?_
  refine ag_ivZp (c_X0_isPlainWith o0 32 ho0 rfl) vwC_D (vwC_at (kpC_0 _ ho0)) rfl cs_X0_49 rfl rfl (Nat.le_of_ble_eq_true rfl) ⟨by decide, by decide⟩ ⟨Nat.zero_le _, Nat.zero_le _⟩ dX0_canSeal_3 ?_
  refine ag_ltZ (fun v1 => ?_)
  refine ag_dv (j := 45) (L1 := fun _ => [some (.ref (bs + posC 0 o0))]) (st1 := fun v2 => [.int (b2i v2)]) (ws1 := fun _ => vwC cy bs kb V) (fun v2 => ?_) (fun k4 hk3 => ?_)
  · exact ag_zrp (x := v2) dX0_canSeal_45
  · refine ag_bif_eq_v (tgt := 44) dX0_canSeal_6 (by decide) (fun h5 => ?_) (fun h5 => ?_)
    · refine ag_iconst (v := 0) dX0_canSeal_44 (by decide) ?_
      exact hk3 false
    · refine ag_aload_n dX0_canSeal_9 rfl ?_
      refine ag_aload_n dX0_canSeal_10 rfl ?_
      refine gC_X0_cursor ho0 fl_X0_9 dX0_canSeal_11 ?_
      refine ag_iconst (v := 1) dX0_canSeal_14 (by decide) ?_
      refine ag_ivZp (c_X0_holds o0 (V 0 o0 0) 1 ho0 rfl) vwC_D (vwC_at (kpC_0 _ ho0)) rfl cs_X0_41 rfl rfl (Nat.le_of_ble_eq_true rfl) ⟨by decide, by decide⟩ ⟨Nat.zero_le _, Nat.zero_le _⟩ dX0_canSeal_15 ?_
      refine ag_bif_eq_v (tgt := 44) dX0_canSeal_18 (by decide) (fun h6 => ?_) (fun h6 => ?_)
      · refine ag_iconst (v := 0) dX0_canSeal_44 (by decide) ?_
        exact hk3 false
      · refine ag_aload_n dX0_canSeal_21 rfl ?_
        refine gC_X0_cursor ho0 fl_X0_9 dX0_canSeal_22 ?_
        refine ag_bipush (v := 8) dX0_canSeal_25 (by decide) ?_
        refine ag_icmp_lt_v (tgt := 44) dX0_canSeal_27 (by decide) (fun h7 => ?_) (fun h7 => ?_)
        · refine ag_iconst (v := 0) dX0_canSeal_44 (by decide) ?_
          exact hk3 false
        · refine ag_aload_n dX0_canSeal_30 rfl ?_
          refine gC_X0_cursor ho0 fl_X0_9 dX0_canSeal_31 ?_
          refine ag_sipush (v := 255) dX0_canSeal_34 (by decide) ?_
          refine ag_icmp_gt_v (tgt := 44) dX0_canSeal_37 (by decide) (fun h8 => ?_) (fun h8 => ?_)
          · refine ag_iconst (v := 0) dX0_canSeal_44 (by decide) ?_
            exact hk3 false
          · refine ag_iconst (v := 1) dX0_canSeal_40 (by decide) ?_
            refine ag_goto (tgt := 45) dX0_canSeal_41 (by decide) ?_
            exact hk3 true
set_option maxRecDepth 100000 in
set_option maxHeartbeats 4000000 in
theorem c_X0_seal {l : Launch} {D : va_G} {cy : Nat → ClassId} {bs kb : Nat} {V : HV} (o0 : Nat) (o1 : Nat) (ho0 : o0 < 583) (ho1 : o1 < 583) {z : HV} (hz : f_X0_seal kb o0 o1 V = z) : CM l (aG 737 bs) D (tyL cy) (vwC cy bs kb) yX0_seal cX0_seal 2 none 2 44 tvV [.ref (bs + posC 0 o0), .ref (bs + posC 0 o1)] V ((), z) := by
  refine cm_of vwC_D (by decide +kernel) (own := RX0) rfl (Nat.le_of_ble_eq_true rfl) (L := [some (.ref (bs + posC 0 o0)), some (.ref (bs + posC 0 o1))]) rfl hz (fun Γ => ?_)
  unfold f_X0_seal
  refine ag_aload_n dX0_seal_0 rfl ?_
  refine gC_X0_tagged ho0 fl_X0_27 dX0_seal_1 ?_
  refine ag_jn0 (j := 32) (L1 := [some (.ref (bs + posC 0 o0)), some (.ref (bs + posC 0 o1))]) (st1 := []) (ws1 := vwC cy bs kb V) (?_) (fun k1 hk2 => ?_)
  · refine ag_aload_n dX0_seal_32 rfl ?_
    refine ag_iconst (v := 0) dX0_seal_33 (by decide) ?_
    refine pC_X0_tagged (x := false) ho0 fl_X0_27 dX0_seal_34 ?_
    refine ag_ltV (fun V3 => ?_)
    exact ag_vre dX0_seal_37
  · refine ag_bif_eq (tgt := 32) dX0_seal_4 (by decide) (fun h4 => ?_) (fun h4 => ?_)
    · exact hk2
    · refine ag_aload_n dX0_seal_7 rfl ?_
      refine gC_X0_type ho0 fl_X0_24 dX0_seal_8 ?_
      refine ag_if_ne (tgt := 32) dX0_seal_11 (by decide) (fun h5 => ?_) (fun h5 => ?_)
      · exact hk2
      · refine ag_aload_n dX0_seal_14 rfl ?_
        refine ag_ivZp (c_X0_canSeal o1 ho1 rfl) vwC_D (vwC_at (kpC_0 _ ho1)) rfl cs_X0_52 rfl rfl (Nat.le_of_ble_eq_true rfl) ⟨by decide, by decide⟩ ⟨Nat.zero_le _, Nat.zero_le _⟩ dX0_seal_15 ?_
        refine ag_ltZ (fun v6 => ?_)
        refine ag_bif_eq (tgt := 32) dX0_seal_18 (by decide) (fun h7 => ?_) (fun h7 => ?_)
        · exact hk2
        · refine ag_aload_n dX0_seal_21 rfl ?_
          refine ag_aload_n dX0_seal_22 rfl ?_
          refine gC_X0_cursor ho1 fl_X0_9 dX0_seal_23 ?_
          refine pC_X0_type ho0 fl_X0_24 dX0_seal_26 ?_
          refine ag_ltV (fun V8 => ?_)
          refine ag_goto (tgt := 37) dX0_seal_29 (by decide) ?_
          exact ag_vre dX0_seal_37
set_option maxRecDepth 100000 in
set_option maxHeartbeats 4000000 in
theorem c_X0_unseal {l : Launch} {D : va_G} {cy : Nat → ClassId} {bs kb : Nat} {V : HV} (o0 : Nat) (o1 : Nat) (ho0 : o0 < 583) (ho1 : o1 < 583) {z : HV} (hz : f_X0_unseal kb o0 o1 V = z) : CM l (aG 737 bs) D (tyL cy) (vwC cy bs kb) yX0_unseal cX0_unseal 2 none 2 44 tvV [.ref (bs + posC 0 o0), .ref (bs + posC 0 o1)] V ((), z) := by
  refine cm_of vwC_D (by decide +kernel) (own := RX0) rfl (Nat.le_of_ble_eq_true rfl) (L := [some (.ref (bs + posC 0 o0)), some (.ref (bs + posC 0 o1))]) rfl hz (fun Γ => ?_)
  unfold f_X0_unseal
  refine ag_aload_n dX0_unseal_0 rfl ?_
  refine gC_X0_tagged ho0 fl_X0_27 dX0_unseal_1 ?_
  refine ag_jn0 (j := 53) (L1 := [some (.ref (bs + posC 0 o0)), some (.ref (bs + posC 0 o1))]) (st1 := []) (ws1 := vwC cy bs kb V) (?_) (fun k1 hk2 => ?_)
  · refine ag_aload_n dX0_unseal_53 rfl ?_
    refine ag_iconst (v := 0) dX0_unseal_54 (by decide) ?_
    refine pC_X0_tagged (x := false) ho0 fl_X0_27 dX0_unseal_55 ?_
    refine ag_ltV (fun V3 => ?_)
    exact ag_vre dX0_unseal_58
  · refine ag_bif_eq (tgt := 53) dX0_unseal_4 (by decide) (fun h4 => ?_) (fun h4 => ?_)
    · exact hk2
    · refine ag_aload_n dX0_unseal_7 rfl ?_
      refine gC_X0_type ho0 fl_X0_24 dX0_unseal_8 ?_
      refine ag_aload_n dX0_unseal_11 rfl ?_
      refine gC_X0_cursor ho1 fl_X0_9 dX0_unseal_12 ?_
      refine ag_icmp_ne (tgt := 53) dX0_unseal_15 (by decide) (fun h5 => ?_) (fun h5 => ?_)
      · exact hk2
      · refine ag_aload_n dX0_unseal_18 rfl ?_
        refine ag_ivZp (c_X0_canSeal o1 ho1 rfl) vwC_D (vwC_at (kpC_0 _ ho1)) rfl cs_X0_52 rfl rfl (Nat.le_of_ble_eq_true rfl) ⟨by decide, by decide⟩ ⟨Nat.zero_le _, Nat.zero_le _⟩ dX0_unseal_19 ?_
        refine ag_ltZ (fun v6 => ?_)
        refine ag_bif_eq (tgt := 53) dX0_unseal_22 (by decide) (fun h7 => ?_) (fun h7 => ?_)
        · exact hk2
        · refine ag_aload_n dX0_unseal_25 rfl ?_
          refine ag_iconst (v := 0) dX0_unseal_26 (by decide) ?_
          refine pC_X0_type ho0 fl_X0_24 dX0_unseal_27 ?_
          refine ag_ltV (fun V8 => ?_)
          refine ag_aload_n dX0_unseal_30 rfl ?_
          refine ag_bipush (v := 64) dX0_unseal_31 (by decide) ?_
          refine ag_ivZp (c_X0_has o1 64 ho1 rfl) vwC_D (vwC_at (kpC_0 _ ho1)) rfl cs_X0_37 rfl rfl (Nat.le_of_ble_eq_true rfl) ⟨by decide, by decide⟩ ⟨Nat.zero_le _, Nat.zero_le _⟩ dX0_unseal_33 ?_
          refine ag_ltZ (fun v9 => ?_)
          refine ag_bif_ne (tgt := 58) dX0_unseal_36 (by decide) (fun h10 => ?_) (fun h10 => ?_)
          · exact ag_vre dX0_unseal_58
          · refine ag_aload_n dX0_unseal_39 rfl ?_
            refine ag_dup dX0_unseal_40 rfl ?_
            refine gC_X0_perms ho0 fl_X0_21 dX0_unseal_41 ?_
            refine ag_bipush (v := (-65)) dX0_unseal_44 (by decide) ?_
            refine ag_iand dX0_unseal_46 ?_
            refine pC_X0_perms ho0 fl_X0_21 dX0_unseal_47 ?_
            refine ag_ltV (fun V11 => ?_)
            refine ag_goto (tgt := 58) dX0_unseal_50 (by decide) ?_
            exact ag_vre dX0_unseal_58
set_option maxRecDepth 100000 in
set_option maxHeartbeats 4000000 in
theorem c_X0_becomeEntry {l : Launch} {D : va_G} {cy : Nat → ClassId} {bs kb : Nat} {V : HV} (o0 : Nat) (x1 : Int32) (ho0 : o0 < 583) {z : HV} (hz : f_X0_becomeEntry kb o0 x1 V = z) : CM l (aG 737 bs) D (tyL cy) (vwC cy bs kb) yX0_becomeEntry cX0_becomeEntry 2 none 1 21 tvV [.ref (bs + posC 0 o0), .int x1] V ((), z) := by
  refine cm_of vwC_D (by decide +kernel) (own := RX0) rfl (Nat.le_of_ble_eq_true rfl) (L := [some (.ref (bs + posC 0 o0)), some (.int x1)]) rfl hz (fun Γ => ?_)
  unfold f_X0_becomeEntry
  refine ag_aload_n dX0_becomeEntry_0 rfl ?_
  refine ag_iconst (v := 4) dX0_becomeEntry_1 (by decide) ?_
  refine ag_ivZp (c_X0_isPlainWith o0 4 ho0 rfl) vwC_D (vwC_at (kpC_0 _ ho0)) rfl cs_X0_49 rfl rfl (Nat.le_of_ble_eq_true rfl) ⟨by decide, by decide⟩ ⟨Nat.zero_le _, Nat.zero_le _⟩ dX0_becomeEntry_2 ?_
  refine ag_ltZ (fun v1 => ?_)
  refine ag_bif_eq (tgt := 16) dX0_becomeEntry_5 (by decide) (fun h2 => ?_) (fun h2 => ?_)
  · refine ag_aload_n dX0_becomeEntry_16 rfl ?_
    refine ag_iconst (v := 0) dX0_becomeEntry_17 (by decide) ?_
    refine pC_X0_tagged (x := false) ho0 fl_X0_27 dX0_becomeEntry_18 ?_
    refine ag_ltV (fun V3 => ?_)
    exact ag_vre dX0_becomeEntry_21
  · refine ag_aload_n dX0_becomeEntry_8 rfl ?_
    refine ag_iload_n dX0_becomeEntry_9 rfl ?_
    refine pC_X0_type ho0 fl_X0_24 dX0_becomeEntry_10 ?_
    refine ag_ltV (fun V4 => ?_)
    refine ag_goto (tgt := 21) dX0_becomeEntry_13 (by decide) ?_
    exact ag_vre dX0_becomeEntry_21
set_option maxRecDepth 100000 in
set_option maxHeartbeats 4000000 in
theorem c_X0_isWithin {l : Launch} {D : va_G} {cy : Nat → ClassId} {bs kb : Nat} {V : HV} (o0 : Nat) (o1 : Nat) (ho0 : o0 < 583) (ho1 : o1 < 583) {z : Bool} (hz : f_X0_isWithin kb o0 o1 V = z) : CM l (aG 737 bs) D (tyL cy) (vwC cy bs kb) yX0_isWithin cX0_isWithin 2 (some .boolean) 1 21 tvZ [.ref (bs + posC 0 o0), .ref (bs + posC 0 o1)] V (z, V) := by
  refine cm_of vwC_D (by decide +kernel) (own := RX0) rfl (Nat.le_of_ble_eq_true rfl) (L := [some (.ref (bs + posC 0 o0)), some (.ref (bs + posC 0 o1))]) rfl hz (fun Γ => ?_)
  unfold f_X0_isWithin
  refine ag_aload_n dX0_isWithin_0 rfl ?_
  refine gC_X0_base ho0 fl_X0_15 dX0_isWithin_1 ?_
  refine ag_inJp (c_X11_unsigned (V 1 o0 0)  rfl) vwC_D cs_X0_45 rfl rfl (Nat.le_of_ble_eq_true rfl) ⟨by decide, by decide⟩ ⟨Nat.zero_le _, Nat.zero_le _⟩ dX0_isWithin_4 ?_
  refine ag_ltJ (fun v1 => ?_)
  refine ag_aload_n dX0_isWithin_7 rfl ?_
  refine gC_X0_base ho1 fl_X0_15 dX0_isWithin_8 ?_
  refine ag_inJp (c_X11_unsigned (V 1 o1 0)  rfl) vwC_D cs_X0_45 rfl rfl (Nat.le_of_ble_eq_true rfl) ⟨by decide, by decide⟩ ⟨Nat.zero_le _, Nat.zero_le _⟩ dX0_isWithin_11 ?_
  refine ag_ltJ (fun v2 => ?_)
  refine ag_lcmp dX0_isWithin_14 ?_
  refine ag_dv (j := 63) (L1 := fun _ => [some (.ref (bs + posC 0 o0)), some (.ref (bs + posC 0 o1))]) (st1 := fun v3 => [.int (b2i v3)]) (ws1 := fun _ => vwC cy bs kb V) (fun v3 => ?_) (fun k5 hk4 => ?_)
  · exact ag_zrp (x := v3) dX0_isWithin_63
  · refine ag_if_lt_v (tgt := 62) dX0_isWithin_15 (by decide) (fun h6 => ?_) (fun h6 => ?_)
    · refine ag_iconst (v := 0) dX0_isWithin_62 (by decide) ?_
      exact hk4 false
    · refine ag_aload_n dX0_isWithin_18 rfl ?_
      refine gC_X0_top ho0 fl_X0_18 dX0_isWithin_19 ?_
      refine ag_inJp (c_X11_unsigned (V 2 o0 0)  rfl) vwC_D cs_X0_45 rfl rfl (Nat.le_of_ble_eq_true rfl) ⟨by decide, by decide⟩ ⟨Nat.zero_le _, Nat.zero_le _⟩ dX0_isWithin_22 ?_
      refine ag_aload_n dX0_isWithin_25 rfl ?_
      refine gC_X0_top ho1 fl_X0_18 dX0_isWithin_26 ?_
      refine ag_inJp (c_X11_unsigned (V 2 o1 0)  rfl) vwC_D cs_X0_45 rfl rfl (Nat.le_of_ble_eq_true rfl) ⟨by decide, by decide⟩ ⟨Nat.zero_le _, Nat.zero_le _⟩ dX0_isWithin_29 ?_
      refine ag_lcmp dX0_isWithin_32 ?_
      refine ag_if_gt_v (tgt := 62) dX0_isWithin_33 (by decide) (fun h7 => ?_) (fun h7 => ?_)
      · refine ag_iconst (v := 0) dX0_isWithin_62 (by decide) ?_
        exact hk4 false
      · refine ag_aload_n dX0_isWithin_36 rfl ?_
        refine ag_aload_n dX0_isWithin_37 rfl ?_
        refine gC_X0_perms ho0 fl_X0_21 dX0_isWithin_38 ?_
        refine ag_ivZp (c_X0_has o1 (V 3 o0 0) ho1 rfl) vwC_D (vwC_at (kpC_0 _ ho1)) rfl cs_X0_37 rfl rfl (Nat.le_of_ble_eq_true rfl) ⟨by decide, by decide⟩ ⟨Nat.zero_le _, Nat.zero_le _⟩ dX0_isWithin_41 ?_
        refine ag_bif_eq_v (tgt := 62) dX0_isWithin_44 (by decide) (fun h8 => ?_) (fun h8 => ?_)
        · refine ag_iconst (v := 0) dX0_isWithin_62 (by decide) ?_
          exact hk4 false
        · refine ag_aload_n dX0_isWithin_47 rfl ?_
          refine gC_X0_tagged ho0 fl_X0_27 dX0_isWithin_48 ?_
          refine ag_aload_n dX0_isWithin_51 rfl ?_
          refine gC_X0_tagged ho1 fl_X0_27 dX0_isWithin_52 ?_
          refine ag_icmp_ne_v (tgt := 62) dX0_isWithin_55 (by decide) (fun h9 => ?_) (fun h9 => ?_)
          · refine ag_iconst (v := 0) dX0_isWithin_62 (by decide) ?_
            exact hk4 false
          · refine ag_iconst (v := 1) dX0_isWithin_58 (by decide) ?_
            refine ag_goto (tgt := 63) dX0_isWithin_59 (by decide) ?_
            exact hk4 true
set_option maxRecDepth 100000 in
set_option maxHeartbeats 4000000 in
theorem c_X0_isLike {l : Launch} {D : va_G} {cy : Nat → ClassId} {bs kb : Nat} {V : HV} (o0 : Nat) (o1 : Nat) (ho0 : o0 < 583) (ho1 : o1 < 583) {z : Bool} (hz : f_X0_isLike kb o0 o1 V = z) : CM l (aG 737 bs) D (tyL cy) (vwC cy bs kb) yX0_isLike cX0_isLike 2 (some .boolean) 0 0 tvZ [.ref (bs + posC 0 o0), .ref (bs + posC 0 o1)] V (z, V) := by
  refine cm_of vwC_D (by decide +kernel) (own := RX0) rfl (Nat.le_of_ble_eq_true rfl) (L := [some (.ref (bs + posC 0 o0)), some (.ref (bs + posC 0 o1))]) rfl hz (fun Γ => ?_)
  unfold f_X0_isLike
  refine ag_aload_n dX0_isLike_0 rfl ?_
  refine gC_X0_cursor ho0 fl_X0_9 dX0_isLike_1 ?_
  refine ag_aload_n dX0_isLike_4 rfl ?_
  refine gC_X0_cursor ho1 fl_X0_9 dX0_isLike_5 ?_
  refine ag_dv (j := 71) (L1 := fun _ => [some (.ref (bs + posC 0 o0)), some (.ref (bs + posC 0 o1))]) (st1 := fun v1 => [.int (b2i v1)]) (ws1 := fun _ => vwC cy bs kb V) (fun v1 => ?_) (fun k3 hk2 => ?_)
  · exact ag_zrp (x := v1) dX0_isLike_71
  · refine ag_icmp_ne_v (tgt := 70) dX0_isLike_8 (by decide) (fun h4 => ?_) (fun h4 => ?_)
    · refine ag_iconst (v := 0) dX0_isLike_70 (by decide) ?_
      exact hk2 false
    · refine ag_aload_n dX0_isLike_11 rfl ?_
      refine gC_X0_base ho0 fl_X0_15 dX0_isLike_12 ?_
      refine ag_aload_n dX0_isLike_15 rfl ?_
      refine gC_X0_base ho1 fl_X0_15 dX0_isLike_16 ?_
      refine ag_icmp_ne_v (tgt := 70) dX0_isLike_19 (by decide) (fun h5 => ?_) (fun h5 => ?_)
      · refine ag_iconst (v := 0) dX0_isLike_70 (by decide) ?_
        exact hk2 false
      · refine ag_aload_n dX0_isLike_22 rfl ?_
        refine gC_X0_top ho0 fl_X0_18 dX0_isLike_23 ?_
        refine ag_aload_n dX0_isLike_26 rfl ?_
        refine gC_X0_top ho1 fl_X0_18 dX0_isLike_27 ?_
        refine ag_icmp_ne_v (tgt := 70) dX0_isLike_30 (by decide) (fun h6 => ?_) (fun h6 => ?_)
        · refine ag_iconst (v := 0) dX0_isLike_70 (by decide) ?_
          exact hk2 false
        · refine ag_aload_n dX0_isLike_33 rfl ?_
          refine gC_X0_perms ho0 fl_X0_21 dX0_isLike_34 ?_
          refine ag_aload_n dX0_isLike_37 rfl ?_
          refine gC_X0_perms ho1 fl_X0_21 dX0_isLike_38 ?_
          refine ag_icmp_ne_v (tgt := 70) dX0_isLike_41 (by decide) (fun h7 => ?_) (fun h7 => ?_)
          · refine ag_iconst (v := 0) dX0_isLike_70 (by decide) ?_
            exact hk2 false
          · refine ag_aload_n dX0_isLike_44 rfl ?_
            refine gC_X0_type ho0 fl_X0_24 dX0_isLike_45 ?_
            refine ag_aload_n dX0_isLike_48 rfl ?_
            refine gC_X0_type ho1 fl_X0_24 dX0_isLike_49 ?_
            refine ag_icmp_ne_v (tgt := 70) dX0_isLike_52 (by decide) (fun h8 => ?_) (fun h8 => ?_)
            · refine ag_iconst (v := 0) dX0_isLike_70 (by decide) ?_
              exact hk2 false
            · refine ag_aload_n dX0_isLike_55 rfl ?_
              refine gC_X0_tagged ho0 fl_X0_27 dX0_isLike_56 ?_
              refine ag_aload_n dX0_isLike_59 rfl ?_
              refine gC_X0_tagged ho1 fl_X0_27 dX0_isLike_60 ?_
              refine ag_icmp_ne_v (tgt := 70) dX0_isLike_63 (by decide) (fun h9 => ?_) (fun h9 => ?_)
              · refine ag_iconst (v := 0) dX0_isLike_70 (by decide) ?_
                exact hk2 false
              · refine ag_iconst (v := 1) dX0_isLike_66 (by decide) ?_
                refine ag_goto (tgt := 71) dX0_isLike_67 (by decide) ?_
                exact hk2 true
set_option maxRecDepth 100000 in
set_option maxHeartbeats 4000000 in
theorem c_X0_part {l : Launch} {D : va_G} {cy : Nat → ClassId} {bs kb : Nat} {V : HV} (o0 : Nat) (x1 : Int32) (ho0 : o0 < 583) {z : Int64} (hz : f_X0_part kb o0 x1 V = z) : CM l (aG 737 bs) D (tyL cy) (vwC cy bs kb) yX0_part cX0_part 2 (some .long) 1 20 tvJ [.ref (bs + posC 0 o0), .int x1] V (z, V) := by
  refine cm_of vwC_D (by decide +kernel) (own := RX0) rfl (Nat.le_of_ble_eq_true rfl) (L := [some (.ref (bs + posC 0 o0)), some (.int x1)]) rfl hz (fun Γ => ?_)
  unfold f_X0_part
  refine ag_iload_n dX0_part_0 rfl ?_
  refine ag_if (fun h1 => ?_) (fun h1 => ?_)
  · refine ag_tab (off := 39) (tgt := 40) h1 dX0_part_1 (by decide) (by decide) (by decide) (by decide) ?_
    refine ag_aload_n dX0_part_40 rfl ?_
    refine gC_X0_cursor ho0 fl_X0_9 dX0_part_41 ?_
    refine ag_inJp (c_X11_unsigned (V 0 o0 0)  rfl) vwC_D cs_X0_45 rfl rfl (Nat.le_of_ble_eq_true rfl) ⟨by decide, by decide⟩ ⟨Nat.zero_le _, Nat.zero_le _⟩ dX0_part_44 ?_
    refine ag_ltJ (fun v2 => ?_)
    exact ag_lrp dX0_part_47
  · refine ag_if (fun h3 => ?_) (fun h3 => ?_)
    · refine ag_tab (off := 47) (tgt := 48) h3 dX0_part_1 (by decide) (by decide) (by decide) (by decide) ?_
      refine ag_aload_n dX0_part_48 rfl ?_
      refine gC_X0_base ho0 fl_X0_15 dX0_part_49 ?_
      refine ag_inJp (c_X11_unsigned (V 1 o0 0)  rfl) vwC_D cs_X0_45 rfl rfl (Nat.le_of_ble_eq_true rfl) ⟨by decide, by decide⟩ ⟨Nat.zero_le _, Nat.zero_le _⟩ dX0_part_52 ?_
      refine ag_ltJ (fun v4 => ?_)
      exact ag_lrp dX0_part_55
    · refine ag_if (fun h5 => ?_) (fun h5 => ?_)
      · refine ag_tab (off := 55) (tgt := 56) h5 dX0_part_1 (by decide) (by decide) (by decide) (by decide) ?_
        refine ag_aload_n dX0_part_56 rfl ?_
        refine gC_X0_top ho0 fl_X0_18 dX0_part_57 ?_
        refine ag_inJp (c_X11_unsigned (V 2 o0 0)  rfl) vwC_D cs_X0_45 rfl rfl (Nat.le_of_ble_eq_true rfl) ⟨by decide, by decide⟩ ⟨Nat.zero_le _, Nat.zero_le _⟩ dX0_part_60 ?_
        refine ag_ltJ (fun v6 => ?_)
        exact ag_lrp dX0_part_63
      · refine ag_if (fun h7 => ?_) (fun h7 => ?_)
        · refine ag_tab (off := 63) (tgt := 64) h7 dX0_part_1 (by decide) (by decide) (by decide) (by decide) ?_
          refine ag_aload_n dX0_part_64 rfl ?_
          refine gC_X0_perms ho0 fl_X0_21 dX0_part_65 ?_
          refine ag_i2l dX0_part_68 ?_
          exact ag_lrp dX0_part_69
        · refine ag_if (fun h8 => ?_) (fun h8 => ?_)
          · refine ag_tab (off := 69) (tgt := 70) h8 dX0_part_1 (by decide) (by decide) (by decide) (by decide) ?_
            refine ag_aload_n dX0_part_70 rfl ?_
            refine gC_X0_type ho0 fl_X0_24 dX0_part_71 ?_
            refine ag_i2l dX0_part_74 ?_
            exact ag_lrp dX0_part_75
          · refine ag_if (fun h9 => ?_) (fun h9 => ?_)
            · refine ag_tab (off := 75) (tgt := 76) h9 dX0_part_1 (by decide) (by decide) (by decide) (by decide) ?_
              refine ag_aload_n dX0_part_76 rfl ?_
              refine gC_X0_tagged ho0 fl_X0_27 dX0_part_77 ?_
              refine ag_dv (j := 88) (L1 := fun _ => [some (.ref (bs + posC 0 o0)), some (.int x1)]) (st1 := fun v10 => [.long v10]) (ws1 := fun _ => vwC cy bs kb V) (fun v10 => ?_) (fun k12 hk11 => ?_)
              · exact ag_lrp dX0_part_88
              · refine ag_bif_eq_v (tgt := 87) dX0_part_80 (by decide) (fun h13 => ?_) (fun h13 => ?_)
                · refine ag_lconst (v := 0) dX0_part_87 (by decide) ?_
                  exact hk11 (0 : Int64)
                · refine ag_lconst (v := 1) dX0_part_83 (by decide) ?_
                  refine ag_goto (tgt := 88) dX0_part_84 (by decide) ?_
                  exact hk11 (1 : Int64)
            · refine ag_tabD (tgt := 89) dX0_part_1 (by have z0 := lv_neT h1 (k := 0) (a := 0) (by decide); have z1 := lv_neT h3 (k := 1) (a := 1) (by decide); have z2 := lv_neT h5 (k := 2) (a := 2) (by decide); have z3 := lv_neT h7 (k := 3) (a := 3) (by decide); have z4 := lv_neT h8 (k := 4) (a := 4) (by decide); have z5 := lv_neT h9 (k := 5) (a := 5) (by decide); omega) (by decide) ?_
              refine ag_ldc2 kc_X0_56 dX0_part_89 ?_
              exact ag_lrp dX0_part_92
set_option maxRecDepth 100000 in
set_option maxHeartbeats 4000000 in
theorem c_X1_arrange {l : Launch} {D : va_G} {cy : Nat → ClassId} {bs kb : Nat} {V : HV} (o0 : Nat) (x1 : Int32) (ho0 : o0 < 8) {z : Int32 × HV} (hz : f_X1_arrange kb o0 x1 V = z) : CM l (aG 737 bs) D (tyL cy) (vwC cy bs kb) yX1_arrange cX1_arrange 2 (some .int) 0 0 tvI [.ref (bs + posC 1 o0), .int x1] V z := by
  refine cm_of vwC_D (by decide +kernel) (own := RX1) rfl (Nat.le_of_ble_eq_true rfl) (L := [some (.ref (bs + posC 1 o0)), some (.int x1)]) rfl hz (fun Γ => ?_)
  unfold f_X1_arrange
  refine ag_aload_n dX1_arrange_0 rfl ?_
  refine ag_iload_n dX1_arrange_1 rfl ?_
  refine pC_X1_codeAt ho0 fl_X1_18 dX1_arrange_2 ?_
  refine ag_ltV (fun V1 => ?_)
  refine ag_aload_n dX1_arrange_5 rfl ?_
  refine ag_iload_n dX1_arrange_6 rfl ?_
  refine ag_aload_n dX1_arrange_7 rfl ?_
  refine gC_X1_words ho0 fl_X1_22 dX1_arrange_8 ?_
  refine ag_iconst (v := 4) dX1_arrange_11 (by decide) ?_
  refine ag_imul dX1_arrange_12 ?_
  refine ag_bipush (v := 16) dX1_arrange_13 (by decide) ?_
  refine ag_iadd dX1_arrange_15 ?_
  refine ag_iconst (v := 1) dX1_arrange_16 (by decide) ?_
  refine ag_isub dX1_arrange_17 ?_
  refine ag_bipush (v := 16) dX1_arrange_18 (by decide) ?_
  refine ag_idiv dX1_arrange_20 (by decide) ?_
  refine ag_bipush (v := 16) dX1_arrange_21 (by decide) ?_
  refine ag_imul dX1_arrange_23 ?_
  refine ag_iadd dX1_arrange_24 ?_
  refine pC_X1_importsAt ho0 fl_X1_25 dX1_arrange_25 ?_
  refine ag_ltV (fun V2 => ?_)
  refine ag_aload_n dX1_arrange_28 rfl ?_
  refine ag_aload_n dX1_arrange_29 rfl ?_
  refine gC_X1_importsAt ho0 fl_X1_25 dX1_arrange_30 ?_
  refine ag_aload_n dX1_arrange_33 rfl ?_
  refine gC_X1_imports ho0 fl_X1_28 dX1_arrange_34 ?_
  refine ag_bipush (v := 16) dX1_arrange_37 (by decide) ?_
  refine ag_imul dX1_arrange_39 ?_
  refine ag_iadd dX1_arrange_40 ?_
  refine pC_X1_globalsAt ho0 fl_X1_31 dX1_arrange_41 ?_
  refine ag_ltV (fun V3 => ?_)
  refine ag_aload_n dX1_arrange_44 rfl ?_
  refine ag_aload_n dX1_arrange_45 rfl ?_
  refine gC_X1_globalsAt ho0 fl_X1_31 dX1_arrange_46 ?_
  refine ag_aload_n dX1_arrange_49 rfl ?_
  refine gC_X1_globals ho0 fl_X1_34 dX1_arrange_50 ?_
  refine ag_bipush (v := 16) dX1_arrange_53 (by decide) ?_
  refine ag_imul dX1_arrange_55 ?_
  refine ag_iadd dX1_arrange_56 ?_
  refine pC_X1_behind ho0 fl_X1_37 dX1_arrange_57 ?_
  refine ag_ltV (fun V4 => ?_)
  refine ag_aload_n dX1_arrange_60 rfl ?_
  refine gC_X1_behind ho0 fl_X1_37 dX1_arrange_61 ?_
  exact ag_ire dX1_arrange_64
set_option maxRecDepth 100000 in
set_option maxHeartbeats 4000000 in
theorem c_X1_hasExport {l : Launch} {D : va_G} {cy : Nat → ClassId} {bs kb : Nat} {V : HV} (o0 : Nat) (x1 : Int32) (ho0 : o0 < 8) {z : Bool} (hz : f_X1_hasExport kb o0 x1 V = z) : CM l (aG 737 bs) D (tyL cy) (vwC cy bs kb) yX1_hasExport cX1_hasExport 2 (some .boolean) 0 0 tvZ [.ref (bs + posC 1 o0), .int x1] V (z, V) := by
  refine cm_of vwC_D (by decide +kernel) (own := RX1) rfl (Nat.le_of_ble_eq_true rfl) (L := [some (.ref (bs + posC 1 o0)), some (.int x1)]) rfl hz (fun Γ => ?_)
  unfold f_X1_hasExport
  refine ag_iload_n dX1_hasExport_0 rfl ?_
  refine ag_dv (j := 23) (L1 := fun _ => [some (.ref (bs + posC 1 o0)), some (.int x1)]) (st1 := fun v1 => [.int (b2i v1)]) (ws1 := fun _ => vwC cy bs kb V) (fun v1 => ?_) (fun k3 hk2 => ?_)
  · exact ag_zrp (x := v1) dX1_hasExport_23
  · refine ag_if_lt_v (tgt := 22) dX1_hasExport_1 (by decide) (fun h4 => ?_) (fun h4 => ?_)
    · refine ag_iconst (v := 0) dX1_hasExport_22 (by decide) ?_
      exact hk2 false
    · refine ag_iload_n dX1_hasExport_4 rfl ?_
      refine ag_aload_n dX1_hasExport_5 rfl ?_
      refine gC_X1_exports ho0 fl_X1_40 dX1_hasExport_6 ?_
      refine ag_icmp_ge_v (tgt := 22) dX1_hasExport_9 (by decide) (fun h5 => ?_) (fun h5 => ?_)
      · refine ag_iconst (v := 0) dX1_hasExport_22 (by decide) ?_
        exact hk2 false
      · refine ag_iload_n dX1_hasExport_12 rfl ?_
        refine ag_bipush (v := 8) dX1_hasExport_13 (by decide) ?_
        refine ag_icmp_ge_v (tgt := 22) dX1_hasExport_15 (by decide) (fun h6 => ?_) (fun h6 => ?_)
        · refine ag_iconst (v := 0) dX1_hasExport_22 (by decide) ?_
          exact hk2 false
        · refine ag_iconst (v := 1) dX1_hasExport_18 (by decide) ?_
          refine ag_goto (tgt := 23) dX1_hasExport_19 (by decide) ?_
          exact hk2 true
set_option maxRecDepth 100000 in
set_option maxHeartbeats 4000000 in
theorem c_X1_codeTo {l : Launch} {D : va_G} {cy : Nat → ClassId} {bs kb : Nat} {V : HV} (o0 : Nat) (o1 : Nat) (x2 : Int32) (ho0 : o0 < 8) (ho1 : o1 < 583) {z : HV} (hz : f_X1_codeTo kb o0 o1 x2 V = some z) : CM l (aG 737 bs) D (tyL cy) (vwC cy bs kb) yX1_codeTo cX1_codeTo 4 none 1 26 tvV [.ref (bs + posC 1 o0), .ref (bs + posC 0 o1), .int x2] V ((), z) := by
  refine cm_of vwC_D (by decide +kernel) (own := RX1) rfl (Nat.le_of_ble_eq_true rfl) (L := [some (.ref (bs + posC 1 o0)), some (.ref (bs + posC 0 o1)), some (.int x2), none]) rfl hz (fun Γ => ?_)
  unfold f_X1_codeTo
  refine ag_aload_n dX1_codeTo_0 rfl ?_
  refine ag_iload_n dX1_codeTo_1 rfl ?_
  refine ag_ivZp (c_X1_hasExport o0 x2 ho0 rfl) vwC_D (vwC_at (kpC_1 _ ho0)) rfl cs_X1_43 rfl rfl (Nat.le_of_ble_eq_true rfl) ⟨by decide, by decide⟩ ⟨Nat.zero_le _, Nat.zero_le _⟩ dX1_codeTo_2 ?_
  refine ag_ltZ (fun v1 => ?_)
  refine ag_jn1 (j := 18) (L1 := fun v2 => [some (.ref (bs + posC 1 o0)), some (.ref (bs + posC 0 o1)), some (.int x2), none]) (st1 := fun v2 => [.int v2]) (ws1 := fun v2 => vwC cy bs kb V) (fun v2 => ?_) (fun k3 hk4 => ?_)
  · refine ag_istore_n (L' := [some (.ref (bs + posC 1 o0)), some (.ref (bs + posC 0 o1)), some (.int x2), some (.int v2)]) dX1_codeTo_18 (by decide) rfl ?_
    refine ag_aload_n dX1_codeTo_19 rfl ?_
    refine ag_aload_n dX1_codeTo_20 rfl ?_
    refine gC_X1_codeAt ho0 fl_X1_18 dX1_codeTo_21 ?_
    refine ag_iload_n dX1_codeTo_24 rfl ?_
    refine ag_iconst (v := 4) dX1_codeTo_25 (by decide) ?_
    refine ag_imul dX1_codeTo_26 ?_
    refine ag_iadd dX1_codeTo_27 ?_
    refine ag_aload_n dX1_codeTo_28 rfl ?_
    refine gC_X1_codeAt ho0 fl_X1_18 dX1_codeTo_29 ?_
    refine ag_aload_n dX1_codeTo_32 rfl ?_
    refine gC_X1_globalsAt ho0 fl_X1_31 dX1_codeTo_33 ?_
    refine ag_bipush (v := 77) dX1_codeTo_36 (by decide) ?_
    refine ag_iconst (v := 0) dX1_codeTo_38 (by decide) ?_
    refine ag_iconst (v := 1) dX1_codeTo_39 (by decide) ?_
    refine ag_ivVe (c_X0_set o1 ((V 108 o0 0) + (v2 * 4)) (V 108 o0 0) (V 110 o0 0) 77 0 true ho1 rfl) vwC_D (vwC_at (kpC_0 _ ho1)) rfl cs_X1_47 rfl rfl (Nat.le_of_ble_eq_true rfl) ⟨by decide, by decide⟩ ⟨Nat.zero_le _, Nat.zero_le _⟩ dX1_codeTo_40 ?_
    refine ag_ltV (fun V5 => ?_)
    exact ag_vrep dX1_codeTo_43
  · refine ag_bif_eq (tgt := 17) dX1_codeTo_5 (by decide) (fun h6 => ?_) (fun h6 => ?_)
    · refine ag_iconst (v := 0) dX1_codeTo_17 (by decide) ?_
      exact hk4 0
    · refine ag_aload_n dX1_codeTo_8 rfl ?_
      refine gC_X1_entries ho0 fl_X1_11 dX1_codeTo_9 ?_
      refine ag_iload_n dX1_codeTo_12 rfl ?_
      refine ag_chk (fun h7 => ?_)
      refine aC_27 ho0 h7 dX1_codeTo_13 ?_
      refine ag_goto (tgt := 18) dX1_codeTo_14 (by decide) ?_
      exact hk4 (V 2700 o0 (x2).toNatClampNeg)
set_option maxRecDepth 100000 in
set_option maxHeartbeats 4000000 in
theorem c_X1_globalsTo {l : Launch} {D : va_G} {cy : Nat → ClassId} {bs kb : Nat} {V : HV} (o0 : Nat) (o1 : Nat) (x2 : Int32) (ho0 : o0 < 8) (ho1 : o1 < 583) {z : HV} (hz : f_X1_globalsTo kb o0 o1 x2 V = z) : CM l (aG 737 bs) D (tyL cy) (vwC cy bs kb) yX1_globalsTo cX1_globalsTo 3 none 1 26 tvV [.ref (bs + posC 1 o0), .ref (bs + posC 0 o1), .int x2] V ((), z) := by
  refine cm_of vwC_D (by decide +kernel) (own := RX1) rfl (Nat.le_of_ble_eq_true rfl) (L := [some (.ref (bs + posC 1 o0)), some (.ref (bs + posC 0 o1)), some (.int x2)]) rfl hz (fun Γ => ?_)
  unfold f_X1_globalsTo
  refine ag_aload_n dX1_globalsTo_0 rfl ?_
  refine ag_aload_n dX1_globalsTo_1 rfl ?_
  refine gC_X1_globalsAt ho0 fl_X1_31 dX1_globalsTo_2 ?_
  refine ag_aload_n dX1_globalsTo_5 rfl ?_
  refine gC_X1_globalsAt ho0 fl_X1_31 dX1_globalsTo_6 ?_
  refine ag_aload_n dX1_globalsTo_9 rfl ?_
  refine gC_X1_behind ho0 fl_X1_37 dX1_globalsTo_10 ?_
  refine ag_iload_n dX1_globalsTo_13 rfl ?_
  refine ag_iconst (v := 0) dX1_globalsTo_14 (by decide) ?_
  refine ag_iconst (v := 1) dX1_globalsTo_15 (by decide) ?_
  refine ag_ivVe (c_X0_set o1 (V 110 o0 0) (V 110 o0 0) (V 111 o0 0) x2 0 true ho1 rfl) vwC_D (vwC_at (kpC_0 _ ho1)) rfl cs_X1_47 rfl rfl (Nat.le_of_ble_eq_true rfl) ⟨by decide, by decide⟩ ⟨Nat.zero_le _, Nat.zero_le _⟩ dX1_globalsTo_16 ?_
  refine ag_ltV (fun V1 => ?_)
  exact ag_vre dX1_globalsTo_19
set_option maxRecDepth 100000 in
set_option maxHeartbeats 4000000 in
theorem c_X1_interruptsAt {l : Launch} {D : va_G} {cy : Nat → ClassId} {bs kb : Nat} {V : HV} (o0 : Nat) (x1 : Int32) (x2 : Bool) (ho0 : o0 < 8) {z : Bool} (hz : f_X1_interruptsAt kb o0 x1 x2 V = some z) : CM l (aG 737 bs) D (tyL cy) (vwC cy bs kb) yX1_interruptsAt cX1_interruptsAt 4 (some .boolean) 1 21 tvZ [.ref (bs + posC 1 o0), .int x1, .int (b2i x2)] V (z, V) := by
  refine cm_of vwC_D (by decide +kernel) (own := RX1) rfl (Nat.le_of_ble_eq_true rfl) (L := [some (.ref (bs + posC 1 o0)), some (.int x1), some (.int (b2i x2)), none]) rfl hz (fun Γ => ?_)
  unfold f_X1_interruptsAt
  refine ag_aload_n dX1_interruptsAt_0 rfl ?_
  refine ag_iload_n dX1_interruptsAt_1 rfl ?_
  refine ag_ivZp (c_X1_hasExport o0 x1 ho0 rfl) vwC_D (vwC_at (kpC_1 _ ho0)) rfl cs_X1_43 rfl rfl (Nat.le_of_ble_eq_true rfl) ⟨by decide, by decide⟩ ⟨Nat.zero_le _, Nat.zero_le _⟩ dX1_interruptsAt_2 ?_
  refine ag_ltZ (fun v1 => ?_)
  refine ag_jn1 (j := 18) (L1 := fun v2 => [some (.ref (bs + posC 1 o0)), some (.int x1), some (.int (b2i x2)), none]) (st1 := fun v2 => [.int v2]) (ws1 := fun v2 => vwC cy bs kb V) (fun v2 => ?_) (fun k3 hk4 => ?_)
  · refine ag_istore_n (L' := [some (.ref (bs + posC 1 o0)), some (.int x1), some (.int (b2i x2)), some (.int v2)]) dX1_interruptsAt_18 (by decide) rfl ?_
    refine ag_iload_n dX1_interruptsAt_19 rfl ?_
    refine ag_iconst (v := 1) dX1_interruptsAt_20 (by decide) ?_
    refine ag_dv (j := 38) (L1 := fun _ => [some (.ref (bs + posC 1 o0)), some (.int x1), some (.int (b2i x2)), some (.int v2)]) (st1 := fun v5 => [.int (b2i v5)]) (ws1 := fun _ => vwC cy bs kb V) (fun v5 => ?_) (fun k7 hk6 => ?_)
    · exact ag_zrpp (x := v5) dX1_interruptsAt_38
    · refine ag_icmp_ne_v (tgt := 28) dX1_interruptsAt_21 (by decide) (fun h8 => ?_) (fun h8 => ?_)
      · refine ag_iload_n dX1_interruptsAt_28 rfl ?_
        refine ag_iconst (v := 3) dX1_interruptsAt_29 (by decide) ?_
        refine ag_icmp_ne_v (tgt := 37) dX1_interruptsAt_30 (by decide) (fun h9 => ?_) (fun h9 => ?_)
        · refine ag_iconst (v := 0) dX1_interruptsAt_37 (by decide) ?_
          exact hk6 false
        · refine ag_iconst (v := 1) dX1_interruptsAt_33 (by decide) ?_
          refine ag_goto (tgt := 38) dX1_interruptsAt_34 (by decide) ?_
          exact hk6 true
      · refine ag_iload_n dX1_interruptsAt_24 rfl ?_
        refine ag_goto (tgt := 38) dX1_interruptsAt_25 (by decide) ?_
        exact hk6 x2
  · refine ag_bif_eq (tgt := 17) dX1_interruptsAt_5 (by decide) (fun h10 => ?_) (fun h10 => ?_)
    · refine ag_iconst (v := 1) dX1_interruptsAt_17 (by decide) ?_
      exact hk4 1
    · refine ag_aload_n dX1_interruptsAt_8 rfl ?_
      refine gC_X1_interrupts ho0 fl_X1_15 dX1_interruptsAt_9 ?_
      refine ag_iload_n dX1_interruptsAt_12 rfl ?_
      refine ag_chk (fun h11 => ?_)
      refine aC_28 ho0 h11 dX1_interruptsAt_13 ?_
      refine ag_goto (tgt := 18) dX1_interruptsAt_14 (by decide) ?_
      exact hk4 (V 2800 o0 (x1).toNatClampNeg)
set_option maxRecDepth 100000 in
set_option maxHeartbeats 4000000 in
theorem c_X1_part {l : Launch} {D : va_G} {cy : Nat → ClassId} {bs kb : Nat} {V : HV} (o0 : Nat) (x1 : Int32) (ho0 : o0 < 8) {z : Int32} (hz : f_X1_part kb o0 x1 V = z) : CM l (aG 737 bs) D (tyL cy) (vwC cy bs kb) yX1_part cX1_part 2 (some .int) 0 0 tvI [.ref (bs + posC 1 o0), .int x1] V (z, V) := by
  refine cm_of vwC_D (by decide +kernel) (own := RX1) rfl (Nat.le_of_ble_eq_true rfl) (L := [some (.ref (bs + posC 1 o0)), some (.int x1)]) rfl hz (fun Γ => ?_)
  unfold f_X1_part
  refine ag_iload_n dX1_part_0 rfl ?_
  refine ag_if (fun h1 => ?_) (fun h1 => ?_)
  · refine ag_tab (off := 31) (tgt := 32) h1 dX1_part_1 (by decide) (by decide) (by decide) (by decide) ?_
    refine ag_aload_n dX1_part_32 rfl ?_
    refine gC_X1_codeAt ho0 fl_X1_18 dX1_part_33 ?_
    exact ag_irp dX1_part_36
  · refine ag_if (fun h2 => ?_) (fun h2 => ?_)
    · refine ag_tab (off := 36) (tgt := 37) h2 dX1_part_1 (by decide) (by decide) (by decide) (by decide) ?_
      refine ag_aload_n dX1_part_37 rfl ?_
      refine gC_X1_importsAt ho0 fl_X1_25 dX1_part_38 ?_
      exact ag_irp dX1_part_41
    · refine ag_if (fun h3 => ?_) (fun h3 => ?_)
      · refine ag_tab (off := 41) (tgt := 42) h3 dX1_part_1 (by decide) (by decide) (by decide) (by decide) ?_
        refine ag_aload_n dX1_part_42 rfl ?_
        refine gC_X1_globalsAt ho0 fl_X1_31 dX1_part_43 ?_
        exact ag_irp dX1_part_46
      · refine ag_if (fun h4 => ?_) (fun h4 => ?_)
        · refine ag_tab (off := 46) (tgt := 47) h4 dX1_part_1 (by decide) (by decide) (by decide) (by decide) ?_
          refine ag_aload_n dX1_part_47 rfl ?_
          refine gC_X1_behind ho0 fl_X1_37 dX1_part_48 ?_
          exact ag_irp dX1_part_51
        · refine ag_tabD (tgt := 52) dX1_part_1 (by have z0 := lv_neT h1 (k := 0) (a := 0) (by decide); have z1 := lv_neT h2 (k := 1) (a := 1) (by decide); have z2 := lv_neT h3 (k := 2) (a := 2) (by decide); have z3 := lv_neT h4 (k := 3) (a := 3) (by decide); omega) (by decide) ?_
          refine ag_iconst (v := (-1)) dX1_part_52 (by decide) ?_
          exact ag_irp dX1_part_53
set_option maxRecDepth 100000 in
set_option maxHeartbeats 4000000 in
theorem c_X2_f {l : Launch} {D : va_G} {cy : Nat → ClassId} {bs kb : Nat} {V : HV} (x0 : Int32) {z : Int32} (hz : f_X2_f x0 = z) : CM l (aG 737 bs) D (tyL cy) (vwC cy bs kb) yX2_f cX2_f 1 (some .int) 0 0 tvI [.int x0] V (z, V) := by
  refine cm_of vwC_D (by decide +kernel) (own := RX2) rfl (Nat.le_of_ble_eq_true rfl) (L := [some (.int x0)]) rfl hz (fun Γ => ?_)
  unfold f_X2_f
  refine ag_iload_n dX2_f_0 rfl ?_
  refine ag_bipush (v := 12) dX2_f_1 (by decide) ?_
  refine ag_iushr dX2_f_3 ?_
  refine ag_bipush (v := 7) dX2_f_4 (by decide) ?_
  refine ag_iand dX2_f_6 ?_
  exact ag_irp dX2_f_7
set_option maxRecDepth 100000 in
set_option maxHeartbeats 4000000 in
theorem c_X2_g {l : Launch} {D : va_G} {cy : Nat → ClassId} {bs kb : Nat} {V : HV} (x0 : Int32) {z : Int32} (hz : f_X2_g x0 = z) : CM l (aG 737 bs) D (tyL cy) (vwC cy bs kb) yX2_g cX2_g 1 (some .int) 0 0 tvI [.int x0] V (z, V) := by
  refine cm_of vwC_D (by decide +kernel) (own := RX2) rfl (Nat.le_of_ble_eq_true rfl) (L := [some (.int x0)]) rfl hz (fun Γ => ?_)
  unfold f_X2_g
  refine ag_iload_n dX2_g_0 rfl ?_
  refine ag_bipush (v := 25) dX2_g_1 (by decide) ?_
  refine ag_iushr dX2_g_3 ?_
  exact ag_irp dX2_g_4
set_option maxRecDepth 100000 in
set_option maxHeartbeats 4000000 in
theorem c_X2_dField {l : Launch} {D : va_G} {cy : Nat → ClassId} {bs kb : Nat} {V : HV} (x0 : Int32) {z : Int32} (hz : f_X2_dField x0 = z) : CM l (aG 737 bs) D (tyL cy) (vwC cy bs kb) yX2_dField cX2_dField 1 (some .int) 0 0 tvI [.int x0] V (z, V) := by
  refine cm_of vwC_D (by decide +kernel) (own := RX2) rfl (Nat.le_of_ble_eq_true rfl) (L := [some (.int x0)]) rfl hz (fun Γ => ?_)
  unfold f_X2_dField
  refine ag_iload_n dX2_dField_0 rfl ?_
  refine ag_bipush (v := 7) dX2_dField_1 (by decide) ?_
  refine ag_iushr dX2_dField_3 ?_
  refine ag_bipush (v := 31) dX2_dField_4 (by decide) ?_
  refine ag_iand dX2_dField_6 ?_
  exact ag_irp dX2_dField_7
set_option maxRecDepth 100000 in
set_option maxHeartbeats 4000000 in
theorem c_X2_aField {l : Launch} {D : va_G} {cy : Nat → ClassId} {bs kb : Nat} {V : HV} (x0 : Int32) {z : Int32} (hz : f_X2_aField x0 = z) : CM l (aG 737 bs) D (tyL cy) (vwC cy bs kb) yX2_aField cX2_aField 1 (some .int) 0 0 tvI [.int x0] V (z, V) := by
  refine cm_of vwC_D (by decide +kernel) (own := RX2) rfl (Nat.le_of_ble_eq_true rfl) (L := [some (.int x0)]) rfl hz (fun Γ => ?_)
  unfold f_X2_aField
  refine ag_iload_n dX2_aField_0 rfl ?_
  refine ag_bipush (v := 15) dX2_aField_1 (by decide) ?_
  refine ag_iushr dX2_aField_3 ?_
  refine ag_bipush (v := 31) dX2_aField_4 (by decide) ?_
  refine ag_iand dX2_aField_6 ?_
  exact ag_irp dX2_aField_7
set_option maxRecDepth 100000 in
set_option maxHeartbeats 4000000 in
theorem c_X2_bField {l : Launch} {D : va_G} {cy : Nat → ClassId} {bs kb : Nat} {V : HV} (x0 : Int32) {z : Int32} (hz : f_X2_bField x0 = z) : CM l (aG 737 bs) D (tyL cy) (vwC cy bs kb) yX2_bField cX2_bField 1 (some .int) 0 0 tvI [.int x0] V (z, V) := by
  refine cm_of vwC_D (by decide +kernel) (own := RX2) rfl (Nat.le_of_ble_eq_true rfl) (L := [some (.int x0)]) rfl hz (fun Γ => ?_)
  unfold f_X2_bField
  refine ag_iload_n dX2_bField_0 rfl ?_
  refine ag_bipush (v := 20) dX2_bField_1 (by decide) ?_
  refine ag_iushr dX2_bField_3 ?_
  refine ag_bipush (v := 31) dX2_bField_4 (by decide) ?_
  refine ag_iand dX2_bField_6 ?_
  exact ag_irp dX2_bField_7
set_option maxRecDepth 100000 in
set_option maxHeartbeats 4000000 in
theorem c_X2_immediate {l : Launch} {D : va_G} {cy : Nat → ClassId} {bs kb : Nat} {V : HV} (x0 : Int32) {z : Int32} (hz : f_X2_immediate x0 = z) : CM l (aG 737 bs) D (tyL cy) (vwC cy bs kb) yX2_immediate cX2_immediate 1 (some .int) 0 0 tvI [.int x0] V (z, V) := by
  refine cm_of vwC_D (by decide +kernel) (own := RX2) rfl (Nat.le_of_ble_eq_true rfl) (L := [some (.int x0)]) rfl hz (fun Γ => ?_)
  unfold f_X2_immediate
  refine ag_iload_n dX2_immediate_0 rfl ?_
  refine ag_bipush (v := 20) dX2_immediate_1 (by decide) ?_
  refine ag_ishr dX2_immediate_3 ?_
  exact ag_irp dX2_immediate_4
set_option maxRecDepth 100000 in
set_option maxHeartbeats 4000000 in
theorem c_X2_storeOffset {l : Launch} {D : va_G} {cy : Nat → ClassId} {bs kb : Nat} {V : HV} (x0 : Int32) {z : Int32} (hz : f_X2_storeOffset x0 = z) : CM l (aG 737 bs) D (tyL cy) (vwC cy bs kb) yX2_storeOffset cX2_storeOffset 1 (some .int) 1 20 tvI [.int x0] V (z, V) := by
  refine cm_of vwC_D (by decide +kernel) (own := RX2) rfl (Nat.le_of_ble_eq_true rfl) (L := [some (.int x0)]) rfl hz (fun Γ => ?_)
  unfold f_X2_storeOffset
  refine ag_iload_n dX2_storeOffset_0 rfl ?_
  refine ag_bipush (v := 25) dX2_storeOffset_1 (by decide) ?_
  refine ag_ishr dX2_storeOffset_3 ?_
  refine ag_iconst (v := 5) dX2_storeOffset_4 (by decide) ?_
  refine ag_ishl dX2_storeOffset_5 ?_
  refine ag_iload_n dX2_storeOffset_6 rfl ?_
  refine ag_isIp (c_X2_dField x0  rfl) vwC_D cs_X2_9 rfl rfl (Nat.le_of_ble_eq_true rfl) ⟨by decide, by decide⟩ ⟨Nat.zero_le _, Nat.zero_le _⟩ dX2_storeOffset_7 ?_
  refine ag_ltI (fun v1 => ?_)
  refine ag_ior dX2_storeOffset_10 ?_
  exact ag_irp dX2_storeOffset_11
set_option maxRecDepth 100000 in
set_option maxHeartbeats 4000000 in
theorem c_X2_branchOffset {l : Launch} {D : va_G} {cy : Nat → ClassId} {bs kb : Nat} {V : HV} (x0 : Int32) {z : Int32} (hz : f_X2_branchOffset x0 = z) : CM l (aG 737 bs) D (tyL cy) (vwC cy bs kb) yX2_branchOffset cX2_branchOffset 1 (some .int) 0 0 tvI [.int x0] V (z, V) := by
  refine cm_of vwC_D (by decide +kernel) (own := RX2) rfl (Nat.le_of_ble_eq_true rfl) (L := [some (.int x0)]) rfl hz (fun Γ => ?_)
  unfold f_X2_branchOffset
  refine ag_iload_n dX2_branchOffset_0 rfl ?_
  refine ag_bipush (v := 31) dX2_branchOffset_1 (by decide) ?_
  refine ag_ishr dX2_branchOffset_3 ?_
  refine ag_bipush (v := 12) dX2_branchOffset_4 (by decide) ?_
  refine ag_ishl dX2_branchOffset_6 ?_
  refine ag_iload_n dX2_branchOffset_7 rfl ?_
  refine ag_bipush (v := 7) dX2_branchOffset_8 (by decide) ?_
  refine ag_iushr dX2_branchOffset_10 ?_
  refine ag_iconst (v := 1) dX2_branchOffset_11 (by decide) ?_
  refine ag_iand dX2_branchOffset_12 ?_
  refine ag_bipush (v := 11) dX2_branchOffset_13 (by decide) ?_
  refine ag_ishl dX2_branchOffset_15 ?_
  refine ag_ior dX2_branchOffset_16 ?_
  refine ag_iload_n dX2_branchOffset_17 rfl ?_
  refine ag_bipush (v := 25) dX2_branchOffset_18 (by decide) ?_
  refine ag_iushr dX2_branchOffset_20 ?_
  refine ag_bipush (v := 63) dX2_branchOffset_21 (by decide) ?_
  refine ag_iand dX2_branchOffset_23 ?_
  refine ag_iconst (v := 5) dX2_branchOffset_24 (by decide) ?_
  refine ag_ishl dX2_branchOffset_25 ?_
  refine ag_ior dX2_branchOffset_26 ?_
  refine ag_iload_n dX2_branchOffset_27 rfl ?_
  refine ag_bipush (v := 8) dX2_branchOffset_28 (by decide) ?_
  refine ag_iushr dX2_branchOffset_30 ?_
  refine ag_bipush (v := 15) dX2_branchOffset_31 (by decide) ?_
  refine ag_iand dX2_branchOffset_33 ?_
  refine ag_iconst (v := 1) dX2_branchOffset_34 (by decide) ?_
  refine ag_ishl dX2_branchOffset_35 ?_
  refine ag_ior dX2_branchOffset_36 ?_
  exact ag_irp dX2_branchOffset_37
set_option maxRecDepth 100000 in
set_option maxHeartbeats 4000000 in
theorem c_X2_jumpOffset {l : Launch} {D : va_G} {cy : Nat → ClassId} {bs kb : Nat} {V : HV} (x0 : Int32) {z : Int32} (hz : f_X2_jumpOffset x0 = z) : CM l (aG 737 bs) D (tyL cy) (vwC cy bs kb) yX2_jumpOffset cX2_jumpOffset 1 (some .int) 0 0 tvI [.int x0] V (z, V) := by
  refine cm_of vwC_D (by decide +kernel) (own := RX2) rfl (Nat.le_of_ble_eq_true rfl) (L := [some (.int x0)]) rfl hz (fun Γ => ?_)
  unfold f_X2_jumpOffset
  refine ag_iload_n dX2_jumpOffset_0 rfl ?_
  refine ag_bipush (v := 31) dX2_jumpOffset_1 (by decide) ?_
  refine ag_ishr dX2_jumpOffset_3 ?_
  refine ag_bipush (v := 20) dX2_jumpOffset_4 (by decide) ?_
  refine ag_ishl dX2_jumpOffset_6 ?_
  refine ag_iload_n dX2_jumpOffset_7 rfl ?_
  refine ag_bipush (v := 12) dX2_jumpOffset_8 (by decide) ?_
  refine ag_iushr dX2_jumpOffset_10 ?_
  refine ag_sipush (v := 255) dX2_jumpOffset_11 (by decide) ?_
  refine ag_iand dX2_jumpOffset_14 ?_
  refine ag_bipush (v := 12) dX2_jumpOffset_15 (by decide) ?_
  refine ag_ishl dX2_jumpOffset_17 ?_
  refine ag_ior dX2_jumpOffset_18 ?_
  refine ag_iload_n dX2_jumpOffset_19 rfl ?_
  refine ag_bipush (v := 20) dX2_jumpOffset_20 (by decide) ?_
  refine ag_iushr dX2_jumpOffset_22 ?_
  refine ag_iconst (v := 1) dX2_jumpOffset_23 (by decide) ?_
  refine ag_iand dX2_jumpOffset_24 ?_
  refine ag_bipush (v := 11) dX2_jumpOffset_25 (by decide) ?_
  refine ag_ishl dX2_jumpOffset_27 ?_
  refine ag_ior dX2_jumpOffset_28 ?_
  refine ag_iload_n dX2_jumpOffset_29 rfl ?_
  refine ag_bipush (v := 21) dX2_jumpOffset_30 (by decide) ?_
  refine ag_iushr dX2_jumpOffset_32 ?_
  refine ag_sipush (v := 1023) dX2_jumpOffset_33 (by decide) ?_
  refine ag_iand dX2_jumpOffset_36 ?_
  refine ag_iconst (v := 1) dX2_jumpOffset_37 (by decide) ?_
  refine ag_ishl dX2_jumpOffset_38 ?_
  refine ag_ior dX2_jumpOffset_39 ?_
  exact ag_irp dX2_jumpOffset_40
set_option maxRecDepth 100000 in
set_option maxHeartbeats 4000000 in
theorem c_X10_taskAt {l : Launch} {D : va_G} {cy : Nat → ClassId} {bs kb : Nat} {V : HV} (o0 : Nat) (x1 : Int32) (ho0 : o0 < 1) {z : Option Nat} (hz : f_X10_taskAt kb o0 x1 V = some z) : CM l (aG 737 bs) D (tyL cy) (vwC cy bs kb) yX10_taskAt cX10_taskAt 2 (some (.object "SweptGrants$Task")) 0 0 (tvO (fun x => bs + posC 7 x)) [.ref (bs + posC 8 o0), .int x1] V (z, V) := by
  refine cm_of vwC_D (by decide +kernel) (own := RX10) rfl (Nat.le_of_ble_eq_true rfl) (L := [some (.ref (bs + posC 8 o0)), some (.int x1)]) rfl hz (fun Γ => ?_)
  unfold f_X10_taskAt
  refine ag_iload_n dX10_taskAt_0 rfl ?_
  refine ag_if_lt (tgt := 27) dX10_taskAt_1 (by decide) (fun h1 => ?_) (fun h1 => ?_)
  · refine ag_null dX10_taskAt_27 ?_
    exact ag_orpp (x := none) dX10_taskAt_28
  · refine ag_iload_n dX10_taskAt_4 rfl ?_
    refine ag_aload_n dX10_taskAt_5 rfl ?_
    refine gC_X10_taskCount ho0 fl_X10_71 dX10_taskAt_6 ?_
    refine ag_icmp_ge (tgt := 27) dX10_taskAt_9 (by decide) (fun h2 => ?_) (fun h2 => ?_)
    · refine ag_null dX10_taskAt_27 ?_
      exact ag_orpp (x := none) dX10_taskAt_28
    · refine ag_iload_n dX10_taskAt_12 rfl ?_
      refine ag_bipush (v := 6) dX10_taskAt_13 (by decide) ?_
      refine ag_icmp_ge (tgt := 27) dX10_taskAt_15 (by decide) (fun h3 => ?_) (fun h3 => ?_)
      · refine ag_null dX10_taskAt_27 ?_
        exact ag_orpp (x := none) dX10_taskAt_28
      · refine ag_aload_n dX10_taskAt_18 rfl ?_
        refine gC_X10_tasks ho0 fl_X10_31 dX10_taskAt_19 ?_
        refine ag_iload_n dX10_taskAt_22 rfl ?_
        refine ag_chk (fun h4 => ?_)
        have qh4 := inb_lt h4
        refine aC_22 (by decide) h4 dX10_taskAt_23 ?_
        refine ag_goto (tgt := 28) dX10_taskAt_24 (by decide) ?_
        exact ag_orpp (x := (some ((x1).toNatClampNeg))) dX10_taskAt_28
set_option maxRecDepth 100000 in
set_option maxHeartbeats 4000000 in
theorem c_X8_has {l : Launch} {D : va_G} {cy : Nat → ClassId} {bs kb : Nat} {V : HV} (o0 : Nat) (x1 : Int32) (x2 : Int32) (ho0 : o0 < 1) {z : Bool} (hz : f_X8_has kb o0 x1 x2 V = z) : CM l (aG 737 bs) D (tyL cy) (vwC cy bs kb) yX8_has cX8_has 3 (some .boolean) 0 0 tvZ [.ref (bs + posC 6 o0), .int x1, .int x2] V (z, V) := by
  refine cm_of vwC_D (by decide +kernel) (own := RX8) rfl (Nat.le_of_ble_eq_true rfl) (L := [some (.ref (bs + posC 6 o0)), some (.int x1), some (.int x2)]) rfl hz (fun Γ => ?_)
  unfold f_X8_has
  refine ag_iload_n dX8_has_0 rfl ?_
  refine ag_if_lt (tgt := 19) dX8_has_1 (by decide) (fun h1 => ?_) (fun h1 => ?_)
  · refine ag_iconst (v := 0) dX8_has_19 (by decide) ?_
    exact ag_zrp (x := false) dX8_has_20
  · refine ag_iload_n dX8_has_4 rfl ?_
    refine ag_aload_n dX8_has_5 rfl ?_
    refine gC_X8_bytes ho0 fl_X8_9 dX8_has_6 ?_
    refine nC_23 (by decide) dX8_has_9 ?_
    refine ag_iload_n dX8_has_10 rfl ?_
    refine ag_isub dX8_has_11 ?_
    refine ag_icmp_gt (tgt := 19) dX8_has_12 (by decide) (fun h2 => ?_) (fun h2 => ?_)
    · refine ag_iconst (v := 0) dX8_has_19 (by decide) ?_
      exact ag_zrp (x := false) dX8_has_20
    · refine ag_iconst (v := 1) dX8_has_15 (by decide) ?_
      refine ag_goto (tgt := 20) dX8_has_16 (by decide) ?_
      exact ag_zrp (x := true) dX8_has_20
set_option maxRecDepth 100000 in
set_option maxHeartbeats 4000000 in
theorem c_X8_load {l : Launch} {D : va_G} {cy : Nat → ClassId} {bs kb : Nat} {V : HV} (o0 : Nat) (x1 : Int32) (x2 : Int32) (ho0 : o0 < 1) {z : Int32} (hz : f_X8_load kb o0 x1 x2 V = some z) : CM l (aG 737 bs) D (tyL cy) (vwC cy bs kb) yX8_load cX8_load 5 (some .int) 1 22 tvI [.ref (bs + posC 6 o0), .int x1, .int x2] V (z, V) := by
  refine cm_of vwC_D (by decide +kernel) (own := RX8) rfl (Nat.le_of_ble_eq_true rfl) (L := [some (.ref (bs + posC 6 o0)), some (.int x1), some (.int x2), none, none]) rfl hz (fun Γ => ?_)
  unfold f_X8_load
  refine ag_iconst (v := 0) dX8_load_0 (by decide) ?_
  refine ag_istore_n (L' := [some (.ref (bs + posC 6 o0)), some (.int x1), some (.int x2), some (.int 0), none]) dX8_load_1 (by decide) rfl ?_
  refine ag_aload_n dX8_load_2 rfl ?_
  refine ag_iload_n dX8_load_3 rfl ?_
  refine ag_iload_n dX8_load_4 rfl ?_
  refine ag_ivZp (c_X8_has o0 x1 x2 ho0 rfl) vwC_D (vwC_at (kpC_6 _ ho0)) rfl cs_X8_24 rfl rfl (Nat.le_of_ble_eq_true rfl) ⟨by decide, by decide⟩ ⟨Nat.zero_le _, Nat.zero_le _⟩ dX8_load_5 ?_
  refine ag_ltZ (fun v1 => ?_)
  refine ag_bif_eq (tgt := 46) dX8_load_8 (by decide) (fun h2 => ?_) (fun h2 => ?_)
  · refine ag_iload_n dX8_load_46 rfl ?_
    exact ag_irpp dX8_load_47
  · refine ag_iload_n dX8_load_11 rfl ?_
    refine ag_iconst (v := 1) dX8_load_12 (by decide) ?_
    refine ag_isub dX8_load_13 ?_
    refine ag_ltI (fun v3 => ?_)
    refine ag_istore (L' := [some (.ref (bs + posC 6 o0)), some (.int x1), some (.int x2), some (.int 0), some (.int v3)]) dX8_load_14 (by decide) rfl ?_
    refine ag_jn1 (j := 46) (L1 := fun v6 => [some (.ref (bs + posC 6 o0)), some (.int x1), some (.int x2), some (.int v6), none]) (st1 := fun v6 => []) (ws1 := fun v6 => vwC cy bs kb V) (fun v6 => ?_) (fun k4 hk5 => ?_)
    · refine ag_iload_n dX8_load_46 rfl ?_
      exact ag_irpp dX8_load_47
    · refine ag_loop2 (F := f_X8_load_L16 x1 kb V k4) (L1 := fun v7 v8 => [some (.ref (bs + posC 6 o0)), some (.int x1), some (.int x2), some (.int v7), some (.int v8)]) (st1 := fun v7 v8 => []) (ws1 := fun v7 v8 => vwC cy bs kb V) (fun n9 ih10 v7 v8 => ?_) (fun _ _ => rfl) FU 0 v3
      rw [f_X8_load_L16]
      refine ag_iload dX8_load_16 rfl ?_
      refine ag_if_lt (tgt := 46) dX8_load_18 (by decide) (fun h11 => ?_) (fun h11 => ?_)
      · refine ag_drop [4] (L' := [some (.ref (bs + posC 6 o0)), some (.int x1), some (.int x2), some (.int v7), none]) rfl ?_
        exact hk5 v7
      · refine ag_iload_n dX8_load_21 rfl ?_
        refine ag_bipush (v := 8) dX8_load_22 (by decide) ?_
        refine ag_ishl dX8_load_24 ?_
        refine ag_aload_n dX8_load_25 rfl ?_
        refine gC_X8_bytes ho0 fl_X8_9 dX8_load_26 ?_
        refine ag_iload_n dX8_load_29 rfl ?_
        refine ag_iload dX8_load_30 rfl ?_
        refine ag_iadd dX8_load_32 ?_
        refine ag_chk (fun h12 => ?_)
        refine aC_23 (by decide) h12 dX8_load_33 ?_
        refine ag_sipush (v := 255) dX8_load_34 (by decide) ?_
        refine ag_iand dX8_load_37 ?_
        refine ag_ior dX8_load_38 ?_
        refine ag_ltI (fun v13 => ?_)
        refine ag_istore_n (L' := [some (.ref (bs + posC 6 o0)), some (.int x1), some (.int x2), some (.int v13), some (.int v8)]) dX8_load_39 (by decide) rfl ?_
        refine ag_iincL (L' := fun v14 => [some (.ref (bs + posC 6 o0)), some (.int x1), some (.int x2), some (.int v13), some (.int v14)]) dX8_load_40 (by decide) rfl (by decide) (fun _ => rfl) (fun v14 => ?_)
        refine ag_goto (tgt := 16) dX8_load_43 (by decide) ?_
        exact ih10 v13 v14
