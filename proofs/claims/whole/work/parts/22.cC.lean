set_option maxRecDepth 100000 in
set_option maxHeartbeats 4000000 in
theorem c_X4_room {l : Launch} {D : va_G} {cy : Nat → ClassId} {bs kb : Nat} {V : HV} (o0 : Nat) (x1 : Int32) (ho0 : o0 < 1) {z : Int32} (hz : f_X4_room kb o0 x1 V = some z) : CM l (aG 737 bs) D (tyL cy) (vwC cy bs kb) yX4_room cX4_room 4 (some .int) 0 0 tvI [.ref (bs + posC 3 o0), .int x1] V (z, V) := by
  refine cm_of vwC_D (by decide +kernel) (own := RX4) rfl (Nat.le_of_ble_eq_true rfl) (L := [some (.ref (bs + posC 3 o0)), some (.int x1), none, none]) rfl hz (fun Γ => ?_)
  unfold f_X4_room
  refine ag_iconst (v := 0) dX4_room_0 (by decide) ?_
  refine ag_istore_n (L' := [some (.ref (bs + posC 3 o0)), some (.int x1), some (.int 0), none]) dX4_room_1 (by decide) rfl ?_
  refine ag_aload_n dX4_room_2 rfl ?_
  refine gC_X4_first ho0 fl_X4_34 dX4_room_3 ?_
  refine ag_ltI (fun v1 => ?_)
  refine ag_istore_n (L' := [some (.ref (bs + posC 3 o0)), some (.int x1), some (.int 0), some (.int v1)]) dX4_room_6 (by decide) rfl ?_
  refine ag_jn1 (j := 38) (L1 := fun v4 => [some (.ref (bs + posC 3 o0)), some (.int x1), none, some (.int v4)]) (st1 := fun v4 => []) (ws1 := fun v4 => vwC cy bs kb V) (fun v4 => ?_) (fun k2 hk3 => ?_)
  · refine ag_iload_n dX4_room_38 rfl ?_
    refine ag_iload_n dX4_room_39 rfl ?_
    refine ag_isub dX4_room_40 ?_
    refine ag_iconst (v := 1) dX4_room_41 (by decide) ?_
    refine ag_iadd dX4_room_42 ?_
    exact ag_irpp dX4_room_43
  · refine ag_loop2 (F := f_X4_room_L7 x1 kb V k2) (L1 := fun v5 v6 => [some (.ref (bs + posC 3 o0)), some (.int x1), some (.int v5), some (.int v6)]) (st1 := fun v5 v6 => []) (ws1 := fun v5 v6 => vwC cy bs kb V) (fun n7 ih8 v5 v6 => ?_) (fun _ _ => rfl) FU 0 v1
    rw [f_X4_room_L7]
    refine ag_iload_n dX4_room_7 rfl ?_
    refine ag_aload_n dX4_room_8 rfl ?_
    refine gC_X4_sizes ho0 fl_X4_15 dX4_room_9 ?_
    refine nC_25 (by decide) dX4_room_12 ?_
    refine ag_icmp_ge (tgt := 69) dX4_room_13 (by decide) (fun h9 => ?_) (fun h9 => ?_)
    · refine ag_iconst (v := (-1)) dX4_room_69 (by decide) ?_
      exact ag_irpp dX4_room_70
    · refine ag_aload_n dX4_room_16 rfl ?_
      refine gC_X4_sizes ho0 fl_X4_15 dX4_room_17 ?_
      refine ag_iload_n dX4_room_20 rfl ?_
      refine ag_chk (fun h10 => ?_)
      refine aC_25 (by decide) h10 dX4_room_21 ?_
      refine ag_dv (j := 32) (L1 := fun _ => [some (.ref (bs + posC 3 o0)), some (.int x1), some (.int v5), some (.int v6)]) (st1 := fun v11 => [.int v11]) (ws1 := fun _ => vwC cy bs kb V) (fun v11 => ?_) (fun k21 hk12 => ?_)
      · refine ag_istore_n (L' := [some (.ref (bs + posC 3 o0)), some (.int x1), some (.int v11), some (.int v6)]) dX4_room_32 (by decide) rfl ?_
        refine ag_iload_n dX4_room_33 rfl ?_
        refine ag_iload_n dX4_room_34 rfl ?_
        refine ag_icmp_ne (tgt := 44) dX4_room_35 (by decide) (fun h13 => ?_) (fun h13 => ?_)
        · refine ag_iload_n dX4_room_44 rfl ?_
          refine ag_aload_n dX4_room_45 rfl ?_
          refine gC_X4_sizes ho0 fl_X4_15 dX4_room_46 ?_
          refine ag_iload_n dX4_room_49 rfl ?_
          refine ag_chk (fun h14 => ?_)
          refine aC_25 (by decide) h14 dX4_room_50 ?_
          refine ag_jn1 (j := 64) (L1 := fun v15 => [some (.ref (bs + posC 3 o0)), some (.int x1), some (.int v11), some (.int v6)]) (st1 := fun v15 => [.int v15, .int v6]) (ws1 := fun v15 => vwC cy bs kb V) (fun v15 => ?_) (fun k16 hk17 => ?_)
          · refine ag_iadd dX4_room_64 ?_
            refine ag_ltI (fun v18 => ?_)
            refine ag_istore_n (L' := [some (.ref (bs + posC 3 o0)), some (.int x1), some (.int v11), some (.int v18)]) dX4_room_65 (by decide) rfl ?_
            refine ag_goto (tgt := 7) dX4_room_66 (by decide) ?_
            exact ih8 v11 v18
          · refine ag_if_le (tgt := 63) dX4_room_51 (by decide) (fun h19 => ?_) (fun h19 => ?_)
            · refine ag_iconst (v := 1) dX4_room_63 (by decide) ?_
              exact hk17 1
            · refine ag_aload_n dX4_room_54 rfl ?_
              refine gC_X4_sizes ho0 fl_X4_15 dX4_room_55 ?_
              refine ag_iload_n dX4_room_58 rfl ?_
              refine ag_chk (fun h20 => ?_)
              refine aC_25 (by decide) h20 dX4_room_59 ?_
              refine ag_goto (tgt := 64) dX4_room_60 (by decide) ?_
              exact hk17 (V 2500 0 (v6).toNatClampNeg)
        · refine ag_drop [2] (L' := [some (.ref (bs + posC 3 o0)), some (.int x1), none, some (.int v6)]) rfl ?_
          exact hk3 v6
      · refine ag_if_le_v (tgt := 29) dX4_room_22 (by decide) (fun h22 => ?_) (fun h22 => ?_)
        · refine ag_iload_n dX4_room_29 rfl ?_
          refine ag_iconst (v := 1) dX4_room_30 (by decide) ?_
          refine ag_iadd dX4_room_31 ?_
          exact hk12 (v5 + 1)
        · refine ag_iconst (v := 0) dX4_room_25 (by decide) ?_
          refine ag_goto (tgt := 32) dX4_room_26 (by decide) ?_
          exact hk12 0
set_option maxRecDepth 100000 in
set_option maxHeartbeats 4000000 in
theorem c_X4_has {l : Launch} {D : va_G} {cy : Nat → ClassId} {bs kb : Nat} {V : HV} (o0 : Nat) (x1 : Int32) (ho0 : o0 < 1) {z : Bool} (hz : f_X4_has kb o0 x1 V = z) : CM l (aG 737 bs) D (tyL cy) (vwC cy bs kb) yX4_has cX4_has 2 (some .boolean) 0 0 tvZ [.ref (bs + posC 3 o0), .int x1] V (z, V) := by
  refine cm_of vwC_D (by decide +kernel) (own := RX4) rfl (Nat.le_of_ble_eq_true rfl) (L := [some (.ref (bs + posC 3 o0)), some (.int x1)]) rfl hz (fun Γ => ?_)
  unfold f_X4_has
  refine ag_iload_n dX4_has_0 rfl ?_
  refine ag_aload_n dX4_has_1 rfl ?_
  refine gC_X4_first ho0 fl_X4_34 dX4_has_2 ?_
  refine ag_icmp_lt (tgt := 21) dX4_has_5 (by decide) (fun h1 => ?_) (fun h1 => ?_)
  · refine ag_iconst (v := 0) dX4_has_21 (by decide) ?_
    exact ag_zrp (x := false) dX4_has_22
  · refine ag_iload_n dX4_has_8 rfl ?_
    refine ag_aload_n dX4_has_9 rfl ?_
    refine gC_X4_sizes ho0 fl_X4_15 dX4_has_10 ?_
    refine nC_25 (by decide) dX4_has_13 ?_
    refine ag_icmp_ge (tgt := 21) dX4_has_14 (by decide) (fun h2 => ?_) (fun h2 => ?_)
    · refine ag_iconst (v := 0) dX4_has_21 (by decide) ?_
      exact ag_zrp (x := false) dX4_has_22
    · refine ag_iconst (v := 1) dX4_has_17 (by decide) ?_
      refine ag_goto (tgt := 22) dX4_has_18 (by decide) ?_
      exact ag_zrp (x := true) dX4_has_22
set_option maxRecDepth 100000 in
set_option maxHeartbeats 4000000 in
theorem c_X4_reserve {l : Launch} {D : va_G} {cy : Nat → ClassId} {bs kb : Nat} {V : HV} (o0 : Nat) (x1 : Int32) (ho0 : o0 < 1) {z : Int32 × HV} (hz : f_X4_reserve kb o0 x1 V = some z) : CM l (aG 737 bs) D (tyL cy) (vwC cy bs kb) yX4_reserve cX4_reserve 3 (some .int) 1 23 tvI [.ref (bs + posC 3 o0), .int x1] V z := by
  refine cm_of vwC_D (by decide +kernel) (own := RX4) rfl (Nat.le_of_ble_eq_true rfl) (L := [some (.ref (bs + posC 3 o0)), some (.int x1), none]) rfl hz (fun Γ => ?_)
  unfold f_X4_reserve
  refine ag_aload_n dX4_reserve_0 rfl ?_
  refine ag_iload_n dX4_reserve_1 rfl ?_
  refine ag_bnd (fun p1 hp1 => ?_)
  refine ag_ivIp (c_X4_room o0 x1 ho0 hp1) vwC_D (vwC_at (kpC_3 _ ho0)) rfl cs_X4_57 rfl rfl (Nat.le_of_ble_eq_true rfl) ⟨by decide, by decide⟩ ⟨Nat.zero_le _, Nat.zero_le _⟩ dX4_reserve_2 ?_
  refine ag_istore_n (L' := [some (.ref (bs + posC 3 o0)), some (.int x1), some (.int p1)]) dX4_reserve_5 (by decide) rfl ?_
  refine ag_aload_n dX4_reserve_6 rfl ?_
  refine ag_iload_n dX4_reserve_7 rfl ?_
  refine ag_ivZp (c_X4_has o0 p1 ho0 rfl) vwC_D (vwC_at (kpC_3 _ ho0)) rfl cs_X4_61 rfl rfl (Nat.le_of_ble_eq_true rfl) ⟨by decide, by decide⟩ ⟨Nat.zero_le _, Nat.zero_le _⟩ dX4_reserve_8 ?_
  refine ag_ltZ (fun v2 => ?_)
  refine ag_bif_eq (tgt := 48) dX4_reserve_11 (by decide) (fun h3 => ?_) (fun h3 => ?_)
  · refine ag_iload_n dX4_reserve_48 rfl ?_
    exact ag_irep dX4_reserve_49
  · refine ag_aload_n dX4_reserve_14 rfl ?_
    refine gC_X4_sizes ho0 fl_X4_15 dX4_reserve_15 ?_
    refine ag_iload_n dX4_reserve_18 rfl ?_
    refine ag_iload_n dX4_reserve_19 rfl ?_
    refine ag_chk (fun h4 => ?_)
    refine sC_25 (by decide) h4 dX4_reserve_20 ?_
    refine ag_ltV (fun V5 => ?_)
    refine ag_aload_n dX4_reserve_21 rfl ?_
    refine gC_X4_uses ho0 fl_X4_19 dX4_reserve_22 ?_
    refine ag_iload_n dX4_reserve_25 rfl ?_
    refine ag_iconst (v := 1) dX4_reserve_26 (by decide) ?_
    refine ag_chk (fun h6 => ?_)
    refine sC_26 (by decide) h6 dX4_reserve_27 ?_
    refine ag_ltV (fun V7 => ?_)
    refine ag_aload_n dX4_reserve_28 rfl ?_
    refine ag_dup dX4_reserve_29 rfl ?_
    refine gC_X4_objects ho0 fl_X4_37 dX4_reserve_30 ?_
    refine ag_iconst (v := 1) dX4_reserve_33 (by decide) ?_
    refine ag_iadd dX4_reserve_34 ?_
    refine pC_X4_objects ho0 fl_X4_37 dX4_reserve_35 ?_
    refine ag_ltV (fun V8 => ?_)
    refine ag_aload_n dX4_reserve_38 rfl ?_
    refine ag_dup dX4_reserve_39 rfl ?_
    refine gC_X4_given ho0 fl_X4_40 dX4_reserve_40 ?_
    refine ag_iload_n dX4_reserve_43 rfl ?_
    refine ag_iadd dX4_reserve_44 ?_
    refine pC_X4_given ho0 fl_X4_40 dX4_reserve_45 ?_
    refine ag_ltV (fun V9 => ?_)
    refine ag_iload_n dX4_reserve_48 rfl ?_
    exact ag_irep dX4_reserve_49
set_option maxRecDepth 100000 in
set_option maxHeartbeats 4000000 in
theorem c_X10_grant {l : Launch} {D : va_G} {cy : Nat → ClassId} {bs kb : Nat} {V : HV} (o0 : Nat) (x1 : Int32) (o2 : Nat) (ho0 : o0 < 1) (ho2 : o2 < 583) {z : Bool × HV} (hz : f_X10_grant kb o0 x1 o2 V = some z) : CM l (aG 737 bs) D (tyL cy) (vwC cy bs kb) yX10_grant cX10_grant 5 (some .boolean) 2 46 tvZ [.ref (bs + posC 8 o0), .int x1, .ref (bs + posC 0 o2)] V z := by
  refine cm_of vwC_D (by decide +kernel) (own := RX10) rfl (Nat.le_of_ble_eq_true rfl) (L := [some (.ref (bs + posC 8 o0)), some (.int x1), some (.ref (bs + posC 0 o2)), none, none]) rfl hz (fun Γ => ?_)
  unfold f_X10_grant
  refine ag_aload_n dX10_grant_0 rfl ?_
  refine gC_X10_heap ho0 fl_X10_56 dX10_grant_1 ?_
  refine ag_iload_n dX10_grant_4 rfl ?_
  refine ag_bnd (fun p1 hp1 => ?_)
  refine ag_ivIe (c_X4_reserve 0 x1 (by decide) hp1) vwC_D (vwC_at (kpC_3 _ (by decide))) rfl cs_X10_178 rfl rfl (Nat.le_of_ble_eq_true rfl) ⟨by decide, by decide⟩ ⟨Nat.zero_le _, Nat.zero_le _⟩ dX10_grant_5 ?_
  refine ag_bipush (v := 16) dX10_grant_8 (by decide) ?_
  refine ag_imul dX10_grant_10 ?_
  refine ag_ltI (fun v2 => ?_)
  refine ag_istore_n (L' := [some (.ref (bs + posC 8 o0)), some (.int x1), some (.ref (bs + posC 0 o2)), some (.int v2), none]) dX10_grant_11 (by decide) rfl ?_
  refine ag_iload_n dX10_grant_12 rfl ?_
  refine ag_if_ge (tgt := 22) dX10_grant_13 (by decide) (fun h3 => ?_) (fun h3 => ?_)
  · refine ag_iload_n dX10_grant_22 rfl ?_
    refine ag_iload_n dX10_grant_23 rfl ?_
    refine ag_bipush (v := 16) dX10_grant_24 (by decide) ?_
    refine ag_imul dX10_grant_26 ?_
    refine ag_iadd dX10_grant_27 ?_
    refine ag_ltI (fun v4 => ?_)
    refine ag_istore (L' := [some (.ref (bs + posC 8 o0)), some (.int x1), some (.ref (bs + posC 0 o2)), some (.int v2), some (.int v4)]) dX10_grant_28 (by decide) rfl ?_
    refine ag_aload_n dX10_grant_30 rfl ?_
    refine gC_X10_store ho0 fl_X10_49 dX10_grant_31 ?_
    refine ag_iload_n dX10_grant_34 rfl ?_
    refine ag_iload dX10_grant_35 rfl ?_
    refine ag_bnd (fun p5 hp5 => ?_)
    refine ag_ivVe (c_X8_erase 0 v2 v4 (by decide) hp5) vwC_D (vwC_at (kpC_6 _ (by decide))) rfl cs_X10_185 rfl rfl (Nat.le_of_ble_eq_true rfl) ⟨by decide, by decide⟩ ⟨Nat.zero_le _, Nat.zero_le _⟩ dX10_grant_37 ?_
    refine ag_aload_n dX10_grant_40 rfl ?_
    refine ag_iload_n dX10_grant_41 rfl ?_
    refine ag_iload_n dX10_grant_42 rfl ?_
    refine ag_iload dX10_grant_43 rfl ?_
    refine ag_bipush (v := 91) dX10_grant_45 (by decide) ?_
    refine ag_iconst (v := 0) dX10_grant_47 (by decide) ?_
    refine ag_iconst (v := 1) dX10_grant_48 (by decide) ?_
    refine ag_ivVe (c_X0_set o2 v2 v2 v4 91 0 true ho2 rfl) vwC_D (vwC_at (kpC_0 _ ho2)) rfl cs_X10_189 rfl rfl (Nat.le_of_ble_eq_true rfl) ⟨by decide, by decide⟩ ⟨Nat.zero_le _, Nat.zero_le _⟩ dX10_grant_49 ?_
    refine ag_ltV (fun V6 => ?_)
    refine ag_iconst (v := 1) dX10_grant_52 (by decide) ?_
    exact ag_zrep (x := true) dX10_grant_53
  · refine ag_aload_n dX10_grant_16 rfl ?_
    refine ag_ivVe (c_X0_clear o2 ho2 rfl) vwC_D (vwC_at (kpC_0 _ ho2)) rfl cs_X10_182 rfl rfl (Nat.le_of_ble_eq_true rfl) ⟨by decide, by decide⟩ ⟨Nat.zero_le _, Nat.zero_le _⟩ dX10_grant_17 ?_
    refine ag_ltV (fun V7 => ?_)
    refine ag_iconst (v := 0) dX10_grant_20 (by decide) ?_
    exact ag_zrep (x := false) dX10_grant_21
set_option maxRecDepth 100000 in
set_option maxHeartbeats 4000000 in
theorem c_X7_allocate {l : Launch} {D : va_G} {cy : Nat → ClassId} {bs kb : Nat} {V : HV} (o0 : Nat) (o1 : Nat) (ho0 : o0 < 1) (ho1 : o1 < 6) {z : HV} (hz : f_X7_allocate kb o0 o1 V = some z) : CM l (aG 737 bs) D (tyL cy) (vwC cy bs kb) yX7_allocate cX7_allocate 7 none 3 70 tvV [.ref (bs + posC 8 o0), .ref (bs + posC 7 o1)] V ((), z) := by
  refine cm_of vwC_D (by decide +kernel) (own := RX7) rfl (Nat.le_of_ble_eq_true rfl) (L := [some (.ref (bs + posC 8 o0)), some (.ref (bs + posC 7 o1)), none, none, none, none, none]) rfl hz (fun Γ => ?_)
  unfold f_X7_allocate
  refine ag_aload_n dX7_allocate_0 rfl ?_
  refine gC_X10_heap ho0 fl_X7_50 dX7_allocate_1 ?_
  refine ag_astore_n (L' := [some (.ref (bs + posC 8 o0)), some (.ref (bs + posC 7 o1)), some (.ref (bs + posC 3 0)), none, none, none, none]) dX7_allocate_4 (by decide) rfl ?_
  refine ag_aload_n dX7_allocate_5 rfl ?_
  refine ag_bipush (v := 10) dX7_allocate_6 (by decide) ?_
  refine ag_ivRp (c_X9_reg o1 10 ho1 rfl) vwC_D (vwC_at (kpC_7 _ ho1)) rfl cs_X7_9 rfl rfl (Nat.le_of_ble_eq_true rfl) ⟨by decide, by decide⟩ ⟨Nat.zero_le _, Nat.zero_le _⟩ dX7_allocate_8 ?_
  refine ag_astore_n (L' := [some (.ref (bs + posC 8 o0)), some (.ref (bs + posC 7 o1)), some (.ref (bs + posC 3 0)), some (.ref (bs + posC 0 (f_X9_reg o1 10))), none, none, none]) dX7_allocate_11 (by decide) rfl ?_
  refine ag_aload_n dX7_allocate_12 rfl ?_
  refine gC_X0_cursor (ok_X9_reg ho1) fl_X7_80 dX7_allocate_13 ?_
  refine ag_inJp (c_X11_unsigned (V 0 (f_X9_reg o1 10) 0)  rfl) vwC_D cs_X7_83 rfl rfl (Nat.le_of_ble_eq_true rfl) ⟨by decide, by decide⟩ ⟨Nat.zero_le _, Nat.zero_le _⟩ dX7_allocate_16 ?_
  refine ag_ltJ (fun v1 => ?_)
  refine ag_lstore (L' := [some (.ref (bs + posC 8 o0)), some (.ref (bs + posC 7 o1)), some (.ref (bs + posC 3 0)), some (.ref (bs + posC 0 (f_X9_reg o1 10))), some (.long v1), none, none]) dX7_allocate_19 (by decide) rfl ?_
  refine ag_lload dX7_allocate_21 rfl ?_
  refine ag_lconst (v := 1) dX7_allocate_23 (by decide) ?_
  refine ag_lcmp dX7_allocate_24 ?_
  refine ag_jn0 (j := 39) (L1 := [some (.ref (bs + posC 8 o0)), some (.ref (bs + posC 7 o1)), some (.ref (bs + posC 3 0)), some (.ref (bs + posC 0 (f_X9_reg o1 10))), some (.long v1), none, none]) (st1 := []) (ws1 := vwC cy bs kb V) (?_) (fun k2 hk3 => ?_)
  · refine ag_aload_n dX7_allocate_39 rfl ?_
    refine ag_ivVe (c_X0_clear (f_X9_reg o1 10) (ok_X9_reg ho1) rfl) vwC_D (vwC_at (kpC_0 _ (ok_X9_reg ho1))) rfl cs_X7_66 rfl rfl (Nat.le_of_ble_eq_true rfl) ⟨by decide, by decide⟩ ⟨Nat.zero_le _, Nat.zero_le _⟩ dX7_allocate_40 ?_
    refine ag_ltV (fun V4 => ?_)
    exact ag_vrep dX7_allocate_43
  · refine ag_if_lt (tgt := 39) dX7_allocate_25 (by decide) (fun h5 => ?_) (fun h5 => ?_)
    · exact hk3
    · refine ag_lload dX7_allocate_28 rfl ?_
      refine ag_aload_n dX7_allocate_30 rfl ?_
      refine ag_ivIp (c_X4_bytes 0 (by decide) rfl) vwC_D (vwC_at (kpC_3 _ (by decide))) rfl cs_X7_87 rfl rfl (Nat.le_of_ble_eq_true rfl) ⟨by decide, by decide⟩ ⟨Nat.zero_le _, Nat.zero_le _⟩ dX7_allocate_31 ?_
      refine ag_ltI (fun v6 => ?_)
      refine ag_i2l dX7_allocate_34 ?_
      refine ag_lcmp dX7_allocate_35 ?_
      refine ag_if_le (tgt := 44) dX7_allocate_36 (by decide) (fun h7 => ?_) (fun h7 => ?_)
      · refine ag_lload dX7_allocate_44 rfl ?_
        refine ag_ldc2 kc_X7_90 dX7_allocate_46 ?_
        refine ag_ladd dX7_allocate_49 ?_
        refine ag_lconst (v := 1) dX7_allocate_50 (by decide) ?_
        refine ag_lsub dX7_allocate_51 ?_
        refine ag_ldc2 kc_X7_90 dX7_allocate_52 ?_
        refine ag_chk (fun h8 => ?_)
        refine ag_ldiv dX7_allocate_55 h8 ?_
        refine ag_l2i dX7_allocate_56 ?_
        refine ag_ltI (fun v9 => ?_)
        refine ag_istore (L' := [some (.ref (bs + posC 8 o0)), some (.ref (bs + posC 7 o1)), some (.ref (bs + posC 3 0)), some (.ref (bs + posC 0 (f_X9_reg o1 10))), some (.long v1), none, some (.int v9)]) dX7_allocate_57 (by decide) rfl ?_
        refine ag_aload_n dX7_allocate_59 rfl ?_
        refine ag_iload dX7_allocate_60 rfl ?_
        refine ag_aload_n dX7_allocate_62 rfl ?_
        refine ag_bnd (fun p10 hp10 => ?_)
        refine ag_ivZe (c_X10_grant o0 v9 (f_X9_reg o1 10) ho0 (ok_X9_reg ho1) hp10) vwC_D (vwC_at (kpC_8 _ ho0)) rfl cs_X7_92 rfl rfl (Nat.le_of_ble_eq_true rfl) ⟨by decide, by decide⟩ ⟨Nat.zero_le _, Nat.zero_le _⟩ dX7_allocate_63 ?_
        refine ag_bif_ne (tgt := 108) dX7_allocate_66 (by decide) (fun h11 => ?_) (fun h11 => ?_)
        · exact ag_vrep dX7_allocate_108
        · refine ag_aload_n dX7_allocate_69 rfl ?_
          refine gC_X4_held (by decide) fl_X7_96 dX7_allocate_70 ?_
          refine ag_if_le (tgt := 108) dX7_allocate_73 (by decide) (fun h12 => ?_) (fun h12 => ?_)
          · exact ag_vrep dX7_allocate_108
          · refine ag_aload_n dX7_allocate_76 rfl ?_
            refine ag_dup dX7_allocate_77 rfl ?_
            refine gC_X4_asked (by decide) fl_X7_54 dX7_allocate_78 ?_
            refine ag_aload_n dX7_allocate_81 rfl ?_
            refine gC_X4_next (by decide) fl_X7_99 dX7_allocate_82 ?_
            refine ag_dv (j := 93) (L1 := fun _ => [some (.ref (bs + posC 8 o0)), some (.ref (bs + posC 7 o1)), some (.ref (bs + posC 3 0)), some (.ref (bs + posC 0 (f_X9_reg o1 10))), some (.long v1), none, some (.int v9)]) (st1 := fun v13 => [.int (b2i v13), .int (b2i (i2b (p10.2 308 0 0))), .ref (bs + posC 3 0)]) (ws1 := fun _ => vwC cy bs kb p10.2) (fun v13 => ?_) (fun k18 hk14 => ?_)
            · refine ag_zor (a := (i2b (p10.2 308 0 0))) (b := v13) dX7_allocate_93 ?_
              refine pC_X4_asked (x := ((i2b (p10.2 308 0 0)) || v13)) (by decide) fl_X7_54 dX7_allocate_94 ?_
              refine ag_ltV (fun V15 => ?_)
              refine ag_aload_n dX7_allocate_97 rfl ?_
              refine ag_iload dX7_allocate_98 rfl ?_
              refine pC_X9_wanted ho1 fl_X7_102 dX7_allocate_100 ?_
              refine ag_ltV (fun V16 => ?_)
              refine ag_aload_n dX7_allocate_103 rfl ?_
              refine ag_iconst (v := 4) dX7_allocate_104 (by decide) ?_
              refine pC_X9_state ho1 fl_X7_105 dX7_allocate_105 ?_
              refine ag_ltV (fun V17 => ?_)
              exact ag_vrep dX7_allocate_108
            · refine ag_if_ge_v (tgt := 92) dX7_allocate_85 (by decide) (fun h19 => ?_) (fun h19 => ?_)
              · refine ag_iconst (v := 0) dX7_allocate_92 (by decide) ?_
                exact hk14 false
              · refine ag_iconst (v := 1) dX7_allocate_88 (by decide) ?_
                refine ag_goto (tgt := 93) dX7_allocate_89 (by decide) ?_
                exact hk14 true
      · exact hk3
set_option maxRecDepth 100000 in
set_option maxHeartbeats 4000000 in
theorem c_X4_isObject {l : Launch} {D : va_G} {cy : Nat → ClassId} {bs kb : Nat} {V : HV} (o0 : Nat) (x1 : Int32) (x2 : Int32) (ho0 : o0 < 1) {z : Bool} (hz : f_X4_isObject kb o0 x1 x2 V = some z) : CM l (aG 737 bs) D (tyL cy) (vwC cy bs kb) yX4_isObject cX4_isObject 4 (some .boolean) 1 21 tvZ [.ref (bs + posC 3 o0), .int x1, .int x2] V (z, V) := by
  refine cm_of vwC_D (by decide +kernel) (own := RX4) rfl (Nat.le_of_ble_eq_true rfl) (L := [some (.ref (bs + posC 3 o0)), some (.int x1), some (.int x2), none]) rfl hz (fun Γ => ?_)
  unfold f_X4_isObject
  refine ag_iload_n dX4_isObject_0 rfl ?_
  refine ag_bipush (v := 16) dX4_isObject_1 (by decide) ?_
  refine ag_idiv dX4_isObject_3 (by decide) ?_
  refine ag_ltI (fun v1 => ?_)
  refine ag_istore_n (L' := [some (.ref (bs + posC 3 o0)), some (.int x1), some (.int x2), some (.int v1)]) dX4_isObject_4 (by decide) rfl ?_
  refine ag_iload_n dX4_isObject_5 rfl ?_
  refine ag_if_lt (tgt := 53) dX4_isObject_6 (by decide) (fun h2 => ?_) (fun h2 => ?_)
  · refine ag_iconst (v := 0) dX4_isObject_53 (by decide) ?_
    exact ag_zrpp (x := false) dX4_isObject_54
  · refine ag_iload_n dX4_isObject_9 rfl ?_
    refine ag_bipush (v := 16) dX4_isObject_10 (by decide) ?_
    refine ag_irem dX4_isObject_12 (by decide) ?_
    refine ag_if_ne (tgt := 53) dX4_isObject_13 (by decide) (fun h3 => ?_) (fun h3 => ?_)
    · refine ag_iconst (v := 0) dX4_isObject_53 (by decide) ?_
      exact ag_zrpp (x := false) dX4_isObject_54
    · refine ag_aload_n dX4_isObject_16 rfl ?_
      refine ag_iload_n dX4_isObject_17 rfl ?_
      refine ag_ivZp (c_X4_has o0 v1 ho0 rfl) vwC_D (vwC_at (kpC_3 _ ho0)) rfl cs_X4_61 rfl rfl (Nat.le_of_ble_eq_true rfl) ⟨by decide, by decide⟩ ⟨Nat.zero_le _, Nat.zero_le _⟩ dX4_isObject_18 ?_
      refine ag_ltZ (fun v4 => ?_)
      refine ag_bif_eq (tgt := 53) dX4_isObject_21 (by decide) (fun h5 => ?_) (fun h5 => ?_)
      · refine ag_iconst (v := 0) dX4_isObject_53 (by decide) ?_
        exact ag_zrpp (x := false) dX4_isObject_54
      · refine ag_aload_n dX4_isObject_24 rfl ?_
        refine gC_X4_uses ho0 fl_X4_19 dX4_isObject_25 ?_
        refine ag_iload_n dX4_isObject_28 rfl ?_
        refine ag_chk (fun h6 => ?_)
        refine aC_26 (by decide) h6 dX4_isObject_29 ?_
        refine ag_iconst (v := 1) dX4_isObject_30 (by decide) ?_
        refine ag_icmp_ne (tgt := 53) dX4_isObject_31 (by decide) (fun h7 => ?_) (fun h7 => ?_)
        · refine ag_iconst (v := 0) dX4_isObject_53 (by decide) ?_
          exact ag_zrpp (x := false) dX4_isObject_54
        · refine ag_iload_n dX4_isObject_34 rfl ?_
          refine ag_iload_n dX4_isObject_35 rfl ?_
          refine ag_aload_n dX4_isObject_36 rfl ?_
          refine gC_X4_sizes ho0 fl_X4_15 dX4_isObject_37 ?_
          refine ag_iload_n dX4_isObject_40 rfl ?_
          refine ag_chk (fun h8 => ?_)
          refine aC_25 (by decide) h8 dX4_isObject_41 ?_
          refine ag_bipush (v := 16) dX4_isObject_42 (by decide) ?_
          refine ag_imul dX4_isObject_44 ?_
          refine ag_iadd dX4_isObject_45 ?_
          refine ag_icmp_ne (tgt := 53) dX4_isObject_46 (by decide) (fun h9 => ?_) (fun h9 => ?_)
          · refine ag_iconst (v := 0) dX4_isObject_53 (by decide) ?_
            exact ag_zrpp (x := false) dX4_isObject_54
          · refine ag_iconst (v := 1) dX4_isObject_49 (by decide) ?_
            refine ag_goto (tgt := 54) dX4_isObject_50 (by decide) ?_
            exact ag_zrpp (x := true) dX4_isObject_54
set_option maxRecDepth 100000 in
set_option maxHeartbeats 4000000 in
theorem c_X4_hold {l : Launch} {D : va_G} {cy : Nat → ClassId} {bs kb : Nat} {V : HV} (o0 : Nat) (x1 : Int32) (ho0 : o0 < 1) {z : HV} (hz : f_X4_hold kb o0 x1 V = some z) : CM l (aG 737 bs) D (tyL cy) (vwC cy bs kb) yX4_hold cX4_hold 2 none 1 21 tvV [.ref (bs + posC 3 o0), .int x1] V ((), z) := by
  refine cm_of vwC_D (by decide +kernel) (own := RX4) rfl (Nat.le_of_ble_eq_true rfl) (L := [some (.ref (bs + posC 3 o0)), some (.int x1)]) rfl hz (fun Γ => ?_)
  unfold f_X4_hold
  refine ag_aload_n dX4_hold_0 rfl ?_
  refine ag_iload_n dX4_hold_1 rfl ?_
  refine ag_ivZp (c_X4_has o0 x1 ho0 rfl) vwC_D (vwC_at (kpC_3 _ ho0)) rfl cs_X4_61 rfl rfl (Nat.le_of_ble_eq_true rfl) ⟨by decide, by decide⟩ ⟨Nat.zero_le _, Nat.zero_le _⟩ dX4_hold_2 ?_
  refine ag_ltZ (fun v1 => ?_)
  refine ag_bif_eq (tgt := 55) dX4_hold_5 (by decide) (fun h2 => ?_) (fun h2 => ?_)
  · exact ag_vrep dX4_hold_55
  · refine ag_aload_n dX4_hold_8 rfl ?_
    refine gC_X4_uses ho0 fl_X4_19 dX4_hold_9 ?_
    refine ag_iload_n dX4_hold_12 rfl ?_
    refine ag_iconst (v := 2) dX4_hold_13 (by decide) ?_
    refine ag_chk (fun h3 => ?_)
    refine sC_26 (by decide) h3 dX4_hold_14 ?_
    refine ag_ltV (fun V4 => ?_)
    refine ag_aload_n dX4_hold_15 rfl ?_
    refine ag_dup dX4_hold_16 rfl ?_
    refine gC_X4_objects ho0 fl_X4_37 dX4_hold_17 ?_
    refine ag_iconst (v := 1) dX4_hold_20 (by decide) ?_
    refine ag_isub dX4_hold_21 ?_
    refine pC_X4_objects ho0 fl_X4_37 dX4_hold_22 ?_
    refine ag_ltV (fun V5 => ?_)
    refine ag_aload_n dX4_hold_25 rfl ?_
    refine ag_dup dX4_hold_26 rfl ?_
    refine gC_X4_given ho0 fl_X4_40 dX4_hold_27 ?_
    refine ag_aload_n dX4_hold_30 rfl ?_
    refine gC_X4_sizes ho0 fl_X4_15 dX4_hold_31 ?_
    refine ag_iload_n dX4_hold_34 rfl ?_
    refine ag_chk (fun h6 => ?_)
    refine aC_25 (by decide) h6 dX4_hold_35 ?_
    refine ag_isub dX4_hold_36 ?_
    refine pC_X4_given ho0 fl_X4_40 dX4_hold_37 ?_
    refine ag_ltV (fun V7 => ?_)
    refine ag_aload_n dX4_hold_40 rfl ?_
    refine ag_dup dX4_hold_41 rfl ?_
    refine gC_X4_held ho0 fl_X4_43 dX4_hold_42 ?_
    refine ag_aload_n dX4_hold_45 rfl ?_
    refine gC_X4_sizes ho0 fl_X4_15 dX4_hold_46 ?_
    refine ag_iload_n dX4_hold_49 rfl ?_
    refine ag_chk (fun h8 => ?_)
    refine aC_25 (by decide) h8 dX4_hold_50 ?_
    refine ag_iadd dX4_hold_51 ?_
    refine pC_X4_held ho0 fl_X4_43 dX4_hold_52 ?_
    refine ag_ltV (fun V9 => ?_)
    exact ag_vrep dX4_hold_55
set_option maxRecDepth 100000 in
set_option maxHeartbeats 4000000 in
theorem c_X8_mark {l : Launch} {D : va_G} {cy : Nat → ClassId} {bs kb : Nat} {V : HV} (o0 : Nat) (x1 : Int32) (x2 : Int32) (x3 : Bool) (ho0 : o0 < 1) {z : HV} (hz : f_X8_mark kb o0 x1 x2 x3 V = some z) : CM l (aG 737 bs) D (tyL cy) (vwC cy bs kb) yX8_mark cX8_mark 6 none 0 0 tvV [.ref (bs + posC 6 o0), .int x1, .int x2, .int (b2i x3)] V ((), z) := by
  refine cm_of vwC_D (by decide +kernel) (own := RX8) rfl (Nat.le_of_ble_eq_true rfl) (L := [some (.ref (bs + posC 6 o0)), some (.int x1), some (.int x2), some (.int (b2i x3)), none, none]) rfl hz (fun Γ => ?_)
  unfold f_X8_mark
  refine ag_iload_n dX8_mark_0 rfl ?_
  refine ag_bipush (v := 16) dX8_mark_1 (by decide) ?_
  refine ag_idiv dX8_mark_3 (by decide) ?_
  refine ag_ltI (fun v1 => ?_)
  refine ag_istore (L' := [some (.ref (bs + posC 6 o0)), some (.int x1), some (.int x2), some (.int (b2i x3)), some (.int v1), none]) dX8_mark_4 (by decide) rfl ?_
  refine ag_iload_n dX8_mark_6 rfl ?_
  refine ag_if_lt (tgt := 54) dX8_mark_7 (by decide) (fun h2 => ?_) (fun h2 => ?_)
  · exact ag_vrep dX8_mark_54
  · refine ag_iload dX8_mark_10 rfl ?_
    refine ag_aload_n dX8_mark_12 rfl ?_
    refine gC_X8_marks ho0 fl_X8_15 dX8_mark_13 ?_
    refine nC_24 (by decide) dX8_mark_16 ?_
    refine ag_icmp_ge (tgt := 54) dX8_mark_17 (by decide) (fun h3 => ?_) (fun h3 => ?_)
    · exact ag_vrep dX8_mark_54
    · refine ag_aload_n dX8_mark_20 rfl ?_
      refine gC_X8_marks ho0 fl_X8_15 dX8_mark_21 ?_
      refine ag_iload dX8_mark_24 rfl ?_
      refine ag_chk (fun h4 => ?_)
      refine aC_24 (by decide) h4 dX8_mark_26 ?_
      refine ag_iload_n dX8_mark_27 rfl ?_
      refine ag_iconst (v := (-1)) dX8_mark_28 (by decide) ?_
      refine ag_ixor dX8_mark_29 ?_
      refine ag_iand dX8_mark_30 ?_
      refine ag_ltI (fun v5 => ?_)
      refine ag_istore (L' := [some (.ref (bs + posC 6 o0)), some (.int x1), some (.int x2), some (.int (b2i x3)), some (.int v1), some (.int v5)]) dX8_mark_31 (by decide) rfl ?_
      refine ag_aload_n dX8_mark_33 rfl ?_
      refine gC_X8_marks ho0 fl_X8_15 dX8_mark_34 ?_
      refine ag_iload dX8_mark_37 rfl ?_
      refine ag_iload_n dX8_mark_39 rfl ?_
      refine ag_dv (j := 52) (L1 := fun _ => [some (.ref (bs + posC 6 o0)), some (.int x1), some (.int x2), some (.int (b2i x3)), some (.int v1), some (.int v5)]) (st1 := fun v6 => [.int v6, .int v1, .ref (bs + posC 24 0)]) (ws1 := fun _ => vwC cy bs kb V) (fun v6 => ?_) (fun k10 hk7 => ?_)
      · refine ag_i2b dX8_mark_52 ?_
        refine ag_chk (fun h8 => ?_)
        refine sC_24 (by decide) h8 dX8_mark_53 ?_
        refine ag_ltV (fun V9 => ?_)
        exact ag_vrep dX8_mark_54
      · refine ag_bif_eq_v (tgt := 50) dX8_mark_40 (by decide) (fun h11 => ?_) (fun h11 => ?_)
        · refine ag_iload dX8_mark_50 rfl ?_
          exact hk7 v5
        · refine ag_iload dX8_mark_43 rfl ?_
          refine ag_iload_n dX8_mark_45 rfl ?_
          refine ag_ior dX8_mark_46 ?_
          refine ag_goto (tgt := 52) dX8_mark_47 (by decide) ?_
          exact hk7 (v5 ||| x2)
set_option maxRecDepth 100000 in
set_option maxHeartbeats 4000000 in
theorem c_X4_revoke {l : Launch} {D : va_G} {cy : Nat → ClassId} {bs kb : Nat} {V : HV} (o0 : Nat) (o1 : Nat) (x2 : Int32) (x3 : Int32) (x4 : Bool) (ho0 : o0 < 1) (ho1 : o1 < 1) {z : HV} (hz : f_X4_revoke kb o0 o1 x2 x3 x4 V = some z) : CM l (aG 737 bs) D (tyL cy) (vwC cy bs kb) yX4_revoke cX4_revoke 6 none 1 25 tvV [.ref (bs + posC 3 o0), .ref (bs + posC 6 o1), .int x2, .int x3, .int (b2i x4)] V ((), z) := by
  refine cm_of vwC_D (by decide +kernel) (own := RX4) rfl (Nat.le_of_ble_eq_true rfl) (L := [some (.ref (bs + posC 3 o0)), some (.ref (bs + posC 6 o1)), some (.int x2), some (.int x3), some (.int (b2i x4)), none]) rfl hz (fun Γ => ?_)
  unfold f_X4_revoke
  refine ag_iconst (v := 0) dX4_revoke_0 (by decide) ?_
  refine ag_istore (L' := [some (.ref (bs + posC 3 o0)), some (.ref (bs + posC 6 o1)), some (.int x2), some (.int x3), some (.int (b2i x4)), some (.int 0)]) dX4_revoke_1 (by decide) rfl ?_
  refine ag_jn1 (j := 29) (L1 := fun V3 => [some (.ref (bs + posC 3 o0)), some (.ref (bs + posC 6 o1)), some (.int x2), some (.int x3), some (.int (b2i x4)), none]) (st1 := fun V3 => []) (ws1 := fun V3 => vwC cy bs kb V3) (fun V3 => ?_) (fun k1 hk2 => ?_)
  · exact ag_vrep dX4_revoke_29
  · refine ag_loop2 (F := f_X4_revoke_L3 o1 x2 x3 x4 kb k1) (L1 := fun v4 V5 => [some (.ref (bs + posC 3 o0)), some (.ref (bs + posC 6 o1)), some (.int x2), some (.int x3), some (.int (b2i x4)), some (.int v4)]) (st1 := fun v4 V5 => []) (ws1 := fun v4 V5 => vwC cy bs kb V5) (fun n6 ih7 v4 V5 => ?_) (fun _ _ => rfl) FU 0 V
    rw [f_X4_revoke_L3]
    refine ag_iload dX4_revoke_3 rfl ?_
    refine ag_iload_n dX4_revoke_5 rfl ?_
    refine ag_icmp_ge (tgt := 29) dX4_revoke_6 (by decide) (fun h8 => ?_) (fun h8 => ?_)
    · refine ag_drop [5] (L' := [some (.ref (bs + posC 3 o0)), some (.ref (bs + posC 6 o1)), some (.int x2), some (.int x3), some (.int (b2i x4)), none]) rfl ?_
      exact hk2 V5
    · refine ag_aload_n dX4_revoke_9 rfl ?_
      refine ag_iload_n dX4_revoke_10 rfl ?_
      refine ag_iload dX4_revoke_11 rfl ?_
      refine ag_iadd dX4_revoke_13 ?_
      refine ag_bipush (v := 16) dX4_revoke_14 (by decide) ?_
      refine ag_imul dX4_revoke_16 ?_
      refine ag_iconst (v := 2) dX4_revoke_17 (by decide) ?_
      refine ag_iload dX4_revoke_18 rfl ?_
      refine ag_bnd (fun p9 hp9 => ?_)
      refine ag_ivVe (c_X8_mark o1 ((x2 + v4) * 16) 2 x4 ho1 hp9) vwC_D (vwC_at (kpC_6 _ ho1)) rfl cs_X4_71 rfl rfl (Nat.le_of_ble_eq_true rfl) ⟨by decide, by decide⟩ ⟨Nat.zero_le _, Nat.zero_le _⟩ dX4_revoke_20 ?_
      refine ag_iincL (L' := fun v10 => [some (.ref (bs + posC 3 o0)), some (.ref (bs + posC 6 o1)), some (.int x2), some (.int x3), some (.int (b2i x4)), some (.int v10)]) dX4_revoke_23 (by decide) rfl (by decide) (fun _ => rfl) (fun v10 => ?_)
      refine ag_goto (tgt := 3) dX4_revoke_26 (by decide) ?_
      exact ih7 v10 p9
set_option maxRecDepth 100000 in
set_option maxHeartbeats 4000000 in
theorem c_X7_release {l : Launch} {D : va_G} {cy : Nat → ClassId} {bs kb : Nat} {V : HV} (o0 : Nat) (o1 : Nat) (ho0 : o0 < 1) (ho1 : o1 < 583) {z : Int32 × HV} (hz : f_X7_release kb o0 o1 V = some z) : CM l (aG 737 bs) D (tyL cy) (vwC cy bs kb) yX7_release cX7_release 3 (some .int) 2 50 tvI [.ref (bs + posC 8 o0), .ref (bs + posC 0 o1)] V z := by
  refine cm_of vwC_D (by decide +kernel) (own := RX7) rfl (Nat.le_of_ble_eq_true rfl) (L := [some (.ref (bs + posC 8 o0)), some (.ref (bs + posC 0 o1)), none]) rfl hz (fun Γ => ?_)
  unfold f_X7_release
  refine ag_aload_n dX7_release_0 rfl ?_
  refine ag_iconst (v := 2) dX7_release_1 (by decide) ?_
  refine ag_ivZp (c_X0_isPlainWith o1 2 ho1 rfl) vwC_D (vwC_at (kpC_0 _ ho1)) rfl cs_X7_108 rfl rfl (Nat.le_of_ble_eq_true rfl) ⟨by decide, by decide⟩ ⟨Nat.zero_le _, Nat.zero_le _⟩ dX7_release_2 ?_
  refine ag_ltZ (fun v1 => ?_)
  refine ag_bif_eq (tgt := 26) dX7_release_5 (by decide) (fun h2 => ?_) (fun h2 => ?_)
  · refine ag_iconst (v := (-1)) dX7_release_26 (by decide) ?_
    exact ag_irep dX7_release_27
  · refine ag_aload_n dX7_release_8 rfl ?_
    refine gC_X10_heap ho0 fl_X7_50 dX7_release_9 ?_
    refine ag_aload_n dX7_release_12 rfl ?_
    refine gC_X0_base ho1 fl_X7_112 dX7_release_13 ?_
    refine ag_aload_n dX7_release_16 rfl ?_
    refine gC_X0_top ho1 fl_X7_115 dX7_release_17 ?_
    refine ag_bnd (fun p3 hp3 => ?_)
    refine ag_ivZp (c_X4_isObject 0 (V 1 o1 0) (V 2 o1 0) (by decide) hp3) vwC_D (vwC_at (kpC_3 _ (by decide))) rfl cs_X7_118 rfl rfl (Nat.le_of_ble_eq_true rfl) ⟨by decide, by decide⟩ ⟨Nat.zero_le _, Nat.zero_le _⟩ dX7_release_20 ?_
    refine ag_bif_ne (tgt := 28) dX7_release_23 (by decide) (fun h4 => ?_) (fun h4 => ?_)
    · refine ag_aload_n dX7_release_28 rfl ?_
      refine gC_X0_base ho1 fl_X7_112 dX7_release_29 ?_
      refine ag_bipush (v := 16) dX7_release_32 (by decide) ?_
      refine ag_idiv dX7_release_34 (by decide) ?_
      refine ag_ltI (fun v5 => ?_)
      refine ag_istore_n (L' := [some (.ref (bs + posC 8 o0)), some (.ref (bs + posC 0 o1)), some (.int v5)]) dX7_release_35 (by decide) rfl ?_
      refine ag_aload_n dX7_release_36 rfl ?_
      refine gC_X10_heap ho0 fl_X7_50 dX7_release_37 ?_
      refine ag_iload_n dX7_release_40 rfl ?_
      refine ag_bnd (fun p6 hp6 => ?_)
      refine ag_ivVe (c_X4_hold 0 v5 (by decide) hp6) vwC_D (vwC_at (kpC_3 _ (by decide))) rfl cs_X7_122 rfl rfl (Nat.le_of_ble_eq_true rfl) ⟨by decide, by decide⟩ ⟨Nat.zero_le _, Nat.zero_le _⟩ dX7_release_41 ?_
      refine ag_aload_n dX7_release_44 rfl ?_
      refine gC_X10_heap ho0 fl_X7_50 dX7_release_45 ?_
      refine ag_aload_n dX7_release_48 rfl ?_
      refine gC_X10_store ho0 fl_X7_72 dX7_release_49 ?_
      refine ag_iload_n dX7_release_52 rfl ?_
      refine ag_aload_n dX7_release_53 rfl ?_
      refine gC_X0_top ho1 fl_X7_115 dX7_release_54 ?_
      refine ag_aload_n dX7_release_57 rfl ?_
      refine gC_X0_base ho1 fl_X7_112 dX7_release_58 ?_
      refine ag_isub dX7_release_61 ?_
      refine ag_bipush (v := 16) dX7_release_62 (by decide) ?_
      refine ag_idiv dX7_release_64 (by decide) ?_
      refine ag_iconst (v := 1) dX7_release_65 (by decide) ?_
      refine ag_bnd (fun p7 hp7 => ?_)
      refine ag_ivVe (c_X4_revoke 0 0 v5 (((p6 2 o1 0) - (p6 1 o1 0)) / 16) true (by decide) (by decide) hp7) vwC_D (vwC_at (kpC_3 _ (by decide))) rfl cs_X7_125 rfl rfl (Nat.le_of_ble_eq_true rfl) ⟨by decide, by decide⟩ ⟨Nat.zero_le _, Nat.zero_le _⟩ dX7_release_66 ?_
      refine ag_iconst (v := 0) dX7_release_69 (by decide) ?_
      exact ag_irep dX7_release_70
    · refine ag_iconst (v := (-1)) dX7_release_26 (by decide) ?_
      exact ag_irep dX7_release_27
set_option maxRecDepth 100000 in
set_option maxHeartbeats 4000000 in
theorem c_X9_restUntil {l : Launch} {D : va_G} {cy : Nat → ClassId} {bs kb : Nat} {V : HV} (o0 : Nat) (x1 : Int32) (x2 : Int32) (ho0 : o0 < 6) {z : HV} (hz : f_X9_restUntil kb o0 x1 x2 V = z) : CM l (aG 737 bs) D (tyL cy) (vwC cy bs kb) yX9_restUntil cX9_restUntil 3 none 0 0 tvV [.ref (bs + posC 7 o0), .int x1, .int x2] V ((), z) := by
  refine cm_of vwC_D (by decide +kernel) (own := RX9) rfl (Nat.le_of_ble_eq_true rfl) (L := [some (.ref (bs + posC 7 o0)), some (.int x1), some (.int x2)]) rfl hz (fun Γ => ?_)
  unfold f_X9_restUntil
  refine ag_aload_n dX9_restUntil_0 rfl ?_
  refine ag_iload_n dX9_restUntil_1 rfl ?_
  refine pC_X9_state ho0 fl_X9_52 dX9_restUntil_2 ?_
  refine ag_ltV (fun V1 => ?_)
  refine ag_aload_n dX9_restUntil_5 rfl ?_
  refine ag_iload_n dX9_restUntil_6 rfl ?_
  refine pC_X9_readyAt ho0 fl_X9_55 dX9_restUntil_7 ?_
  refine ag_ltV (fun V2 => ?_)
  exact ag_vre dX9_restUntil_10
set_option maxRecDepth 100000 in
set_option maxHeartbeats 4000000 in
theorem c_X7_sleep {l : Launch} {D : va_G} {cy : Nat → ClassId} {bs kb : Nat} {V : HV} (o0 : Nat) (o1 : Nat) (ho0 : o0 < 1) (ho1 : o1 < 6) {z : Int32 × HV} (hz : f_X7_sleep kb o0 o1 V = z) : CM l (aG 737 bs) D (tyL cy) (vwC cy bs kb) yX7_sleep cX7_sleep 3 (some .int) 1 22 tvI [.ref (bs + posC 8 o0), .ref (bs + posC 7 o1)] V z := by
  refine cm_of vwC_D (by decide +kernel) (own := RX7) rfl (Nat.le_of_ble_eq_true rfl) (L := [some (.ref (bs + posC 8 o0)), some (.ref (bs + posC 7 o1)), none]) rfl hz (fun Γ => ?_)
  unfold f_X7_sleep
  refine ag_aload_n dX7_sleep_0 rfl ?_
  refine ag_bipush (v := 10) dX7_sleep_1 (by decide) ?_
  refine ag_ivRp (c_X9_reg o1 10 ho1 rfl) vwC_D (vwC_at (kpC_7 _ ho1)) rfl cs_X7_9 rfl rfl (Nat.le_of_ble_eq_true rfl) ⟨by decide, by decide⟩ ⟨Nat.zero_le _, Nat.zero_le _⟩ dX7_sleep_3 ?_
  refine gC_X0_cursor (ok_X9_reg ho1) fl_X7_80 dX7_sleep_6 ?_
  refine ag_ltI (fun v1 => ?_)
  refine ag_istore_n (L' := [some (.ref (bs + posC 8 o0)), some (.ref (bs + posC 7 o1)), some (.int v1)]) dX7_sleep_9 (by decide) rfl ?_
  refine ag_iload_n dX7_sleep_10 rfl ?_
  refine ag_iconst (v := 1) dX7_sleep_11 (by decide) ?_
  refine ag_icmp_lt (tgt := 22) dX7_sleep_12 (by decide) (fun h2 => ?_) (fun h2 => ?_)
  · refine ag_iconst (v := (-1)) dX7_sleep_22 (by decide) ?_
    exact ag_ire dX7_sleep_23
  · refine ag_iload_n dX7_sleep_15 rfl ?_
    refine ag_sipush (v := 10000) dX7_sleep_16 (by decide) ?_
    refine ag_icmp_le (tgt := 24) dX7_sleep_19 (by decide) (fun h3 => ?_) (fun h3 => ?_)
    · refine ag_aload_n dX7_sleep_24 rfl ?_
      refine ag_aload_n dX7_sleep_25 rfl ?_
      refine gC_X10_time ho0 fl_X7_129 dX7_sleep_26 ?_
      refine ag_iload_n dX7_sleep_29 rfl ?_
      refine ag_iadd dX7_sleep_30 ?_
      refine ag_iconst (v := 1) dX7_sleep_31 (by decide) ?_
      refine ag_ivVe (c_X9_restUntil o1 ((V 810 o0 0) + v1) 1 ho1 rfl) vwC_D (vwC_at (kpC_7 _ ho1)) rfl cs_X7_132 rfl rfl (Nat.le_of_ble_eq_true rfl) ⟨by decide, by decide⟩ ⟨Nat.zero_le _, Nat.zero_le _⟩ dX7_sleep_32 ?_
      refine ag_ltV (fun V4 => ?_)
      refine ag_iconst (v := 0) dX7_sleep_35 (by decide) ?_
      exact ag_ire dX7_sleep_36
    · refine ag_iconst (v := (-1)) dX7_sleep_22 (by decide) ?_
      exact ag_ire dX7_sleep_23
set_option maxRecDepth 100000 in
set_option maxHeartbeats 4000000 in
theorem c_X7_isWordFor {l : Launch} {D : va_G} {cy : Nat → ClassId} {bs kb : Nat} {V : HV} (o0 : Nat) (o1 : Nat) (x2 : Int32) (ho0 : o0 < 1) (ho1 : o1 < 583) {z : Bool} (hz : f_X7_isWordFor kb o0 o1 x2 V = z) : CM l (aG 737 bs) D (tyL cy) (vwC cy bs kb) yX7_isWordFor cX7_isWordFor 3 (some .boolean) 2 47 tvZ [.ref (bs + posC 8 o0), .ref (bs + posC 0 o1), .int x2] V (z, V) := by
  refine cm_of vwC_D (by decide +kernel) (own := RX7) rfl (Nat.le_of_ble_eq_true rfl) (L := [some (.ref (bs + posC 8 o0)), some (.ref (bs + posC 0 o1)), some (.int x2)]) rfl hz (fun Γ => ?_)
  unfold f_X7_isWordFor
  refine ag_aload_n dX7_isWordFor_0 rfl ?_
  refine ag_iload_n dX7_isWordFor_1 rfl ?_
  refine ag_aload_n dX7_isWordFor_2 rfl ?_
  refine gC_X0_cursor ho1 fl_X7_80 dX7_isWordFor_3 ?_
  refine ag_iconst (v := 4) dX7_isWordFor_6 (by decide) ?_
  refine ag_ivIp (c_X0_faultFor o1 x2 (V 0 o1 0) 4 ho1 rfl) vwC_D (vwC_at (kpC_0 _ ho1)) rfl cs_X7_136 rfl rfl (Nat.le_of_ble_eq_true rfl) ⟨by decide, by decide⟩ ⟨Nat.zero_le _, Nat.zero_le _⟩ dX7_isWordFor_7 ?_
  refine ag_ltI (fun v1 => ?_)
  refine ag_dv (j := 33) (L1 := fun _ => [some (.ref (bs + posC 8 o0)), some (.ref (bs + posC 0 o1)), some (.int x2)]) (st1 := fun v2 => [.int (b2i v2)]) (ws1 := fun _ => vwC cy bs kb V) (fun v2 => ?_) (fun k4 hk3 => ?_)
  · exact ag_zrp (x := v2) dX7_isWordFor_33
  · refine ag_if_ne_v (tgt := 32) dX7_isWordFor_10 (by decide) (fun h5 => ?_) (fun h5 => ?_)
    · refine ag_iconst (v := 0) dX7_isWordFor_32 (by decide) ?_
      exact hk3 false
    · refine ag_aload_n dX7_isWordFor_13 rfl ?_
      refine gC_X10_store ho0 fl_X7_72 dX7_isWordFor_14 ?_
      refine ag_aload_n dX7_isWordFor_17 rfl ?_
      refine gC_X0_cursor ho1 fl_X7_80 dX7_isWordFor_18 ?_
      refine ag_iconst (v := 4) dX7_isWordFor_21 (by decide) ?_
      refine ag_ivZp (c_X8_has 0 (V 0 o1 0) 4 (by decide) rfl) vwC_D (vwC_at (kpC_6 _ (by decide))) rfl cs_X7_140 rfl rfl (Nat.le_of_ble_eq_true rfl) ⟨by decide, by decide⟩ ⟨Nat.zero_le _, Nat.zero_le _⟩ dX7_isWordFor_22 ?_
      refine ag_bif_eq_v (tgt := 32) dX7_isWordFor_25 (by decide) (fun h6 => ?_) (fun h6 => ?_)
      · refine ag_iconst (v := 0) dX7_isWordFor_32 (by decide) ?_
        exact hk3 false
      · refine ag_iconst (v := 1) dX7_isWordFor_28 (by decide) ?_
        refine ag_goto (tgt := 33) dX7_isWordFor_29 (by decide) ?_
        exact hk3 true
set_option maxRecDepth 100000 in
set_option maxHeartbeats 4000000 in
theorem c_X7_await {l : Launch} {D : va_G} {cy : Nat → ClassId} {bs kb : Nat} {V : HV} (o0 : Nat) (o1 : Nat) (ho0 : o0 < 1) (ho1 : o1 < 6) {z : Int32 × HV} (hz : f_X7_await kb o0 o1 V = some z) : CM l (aG 737 bs) D (tyL cy) (vwC cy bs kb) yX7_await cX7_await 4 (some .int) 3 69 tvI [.ref (bs + posC 8 o0), .ref (bs + posC 7 o1)] V z := by
  refine cm_of vwC_D (by decide +kernel) (own := RX7) rfl (Nat.le_of_ble_eq_true rfl) (L := [some (.ref (bs + posC 8 o0)), some (.ref (bs + posC 7 o1)), none, none]) rfl hz (fun Γ => ?_)
  unfold f_X7_await
  refine ag_aload_n dX7_await_0 rfl ?_
  refine ag_bipush (v := 10) dX7_await_1 (by decide) ?_
  refine ag_ivRp (c_X9_reg o1 10 ho1 rfl) vwC_D (vwC_at (kpC_7 _ ho1)) rfl cs_X7_9 rfl rfl (Nat.le_of_ble_eq_true rfl) ⟨by decide, by decide⟩ ⟨Nat.zero_le _, Nat.zero_le _⟩ dX7_await_3 ?_
  refine ag_astore_n (L' := [some (.ref (bs + posC 8 o0)), some (.ref (bs + posC 7 o1)), some (.ref (bs + posC 0 (f_X9_reg o1 10))), none]) dX7_await_6 (by decide) rfl ?_
  refine ag_aload_n dX7_await_7 rfl ?_
  refine ag_bipush (v := 12) dX7_await_8 (by decide) ?_
  refine ag_ivRp (c_X9_reg o1 12 ho1 rfl) vwC_D (vwC_at (kpC_7 _ ho1)) rfl cs_X7_9 rfl rfl (Nat.le_of_ble_eq_true rfl) ⟨by decide, by decide⟩ ⟨Nat.zero_le _, Nat.zero_le _⟩ dX7_await_10 ?_
  refine gC_X0_cursor (ok_X9_reg ho1) fl_X7_80 dX7_await_13 ?_
  refine ag_ltI (fun v1 => ?_)
  refine ag_istore_n (L' := [some (.ref (bs + posC 8 o0)), some (.ref (bs + posC 7 o1)), some (.ref (bs + posC 0 (f_X9_reg o1 10))), some (.int v1)]) dX7_await_16 (by decide) rfl ?_
  refine ag_aload_n dX7_await_17 rfl ?_
  refine ag_aload_n dX7_await_18 rfl ?_
  refine ag_iconst (v := 1) dX7_await_19 (by decide) ?_
  refine ag_isZp (c_X7_isWordFor o0 (f_X9_reg o1 10) 1 ho0 (ok_X9_reg ho1) rfl) vwC_D cs_X7_145 rfl rfl (Nat.le_of_ble_eq_true rfl) ⟨by decide, by decide⟩ ⟨Nat.zero_le _, Nat.zero_le _⟩ dX7_await_20 ?_
  refine ag_ltZ (fun v2 => ?_)
  refine ag_bif_eq (tgt := 37) dX7_await_23 (by decide) (fun h3 => ?_) (fun h3 => ?_)
  · refine ag_iconst (v := (-1)) dX7_await_37 (by decide) ?_
    exact ag_irep dX7_await_38
  · refine ag_iload_n dX7_await_26 rfl ?_
    refine ag_if_lt (tgt := 37) dX7_await_27 (by decide) (fun h4 => ?_) (fun h4 => ?_)
    · refine ag_iconst (v := (-1)) dX7_await_37 (by decide) ?_
      exact ag_irep dX7_await_38
    · refine ag_iload_n dX7_await_30 rfl ?_
      refine ag_sipush (v := 10000) dX7_await_31 (by decide) ?_
      refine ag_icmp_le (tgt := 39) dX7_await_34 (by decide) (fun h5 => ?_) (fun h5 => ?_)
      · refine ag_aload_n dX7_await_39 rfl ?_
        refine gC_X10_store ho0 fl_X7_72 dX7_await_40 ?_
        refine ag_aload_n dX7_await_43 rfl ?_
        refine gC_X0_cursor (ok_X9_reg ho1) fl_X7_80 dX7_await_44 ?_
        refine ag_iconst (v := 4) dX7_await_47 (by decide) ?_
        refine ag_bnd (fun p6 hp6 => ?_)
        refine ag_ivIp (c_X8_load 0 (V 0 (f_X9_reg o1 10) 0) 4 (by decide) hp6) vwC_D (vwC_at (kpC_6 _ (by decide))) rfl cs_X7_149 rfl rfl (Nat.le_of_ble_eq_true rfl) ⟨by decide, by decide⟩ ⟨Nat.zero_le _, Nat.zero_le _⟩ dX7_await_48 ?_
        refine ag_aload_n dX7_await_51 rfl ?_
        refine ag_bipush (v := 11) dX7_await_52 (by decide) ?_
        refine ag_ivRp (c_X9_reg o1 11 ho1 rfl) vwC_D (vwC_at (kpC_7 _ ho1)) rfl cs_X7_9 rfl rfl (Nat.le_of_ble_eq_true rfl) ⟨by decide, by decide⟩ ⟨Nat.zero_le _, Nat.zero_le _⟩ dX7_await_54 ?_
        refine gC_X0_cursor (ok_X9_reg ho1) fl_X7_80 dX7_await_57 ?_
        refine ag_icmp_eq (tgt := 65) dX7_await_60 (by decide) (fun h7 => ?_) (fun h7 => ?_)
        · refine ag_aload_n dX7_await_65 rfl ?_
          refine ag_aload_n dX7_await_66 rfl ?_
          refine gC_X0_cursor (ok_X9_reg ho1) fl_X7_80 dX7_await_67 ?_
          refine pC_X9_waitAddress ho1 fl_X7_153 dX7_await_70 ?_
          refine ag_ltV (fun V8 => ?_)
          refine ag_aload_n dX7_await_73 rfl ?_
          refine ag_aload_n dX7_await_74 rfl ?_
          refine gC_X10_time ho0 fl_X7_129 dX7_await_75 ?_
          refine pC_X9_waitSince ho1 fl_X7_156 dX7_await_78 ?_
          refine ag_ltV (fun V9 => ?_)
          refine ag_aload_n dX7_await_81 rfl ?_
          refine ag_aload_n dX7_await_82 rfl ?_
          refine gC_X10_time ho0 fl_X7_129 dX7_await_83 ?_
          refine ag_iload_n dX7_await_86 rfl ?_
          refine ag_iadd dX7_await_87 ?_
          refine ag_iconst (v := 2) dX7_await_88 (by decide) ?_
          refine ag_ivVe (c_X9_restUntil o1 ((V9 810 o0 0) + v1) 2 ho1 rfl) vwC_D (vwC_at (kpC_7 _ ho1)) rfl cs_X7_132 rfl rfl (Nat.le_of_ble_eq_true rfl) ⟨by decide, by decide⟩ ⟨Nat.zero_le _, Nat.zero_le _⟩ dX7_await_89 ?_
          refine ag_ltV (fun V10 => ?_)
          refine ag_iconst (v := 2) dX7_await_92 (by decide) ?_
          exact ag_irep dX7_await_93
        · refine ag_iconst (v := 1) dX7_await_63 (by decide) ?_
          exact ag_irep dX7_await_64
      · refine ag_iconst (v := (-1)) dX7_await_37 (by decide) ?_
        exact ag_irep dX7_await_38
set_option maxRecDepth 100000 in
set_option maxHeartbeats 4000000 in
theorem c_J9_min_f86c9 {l : Launch} {D : va_G} {cy : Nat → ClassId} {bs kb : Nat} {V : HV} (x0 : Int64) (x1 : Int64) {z : Int64} (hz : f_J9_min_f86c9 x0 x1 = z) : CM l (aG 737 bs) D (tyL cy) (vwC cy bs kb) yJ9_min_f86c9 cJ9_min_f86c9 4 (some .long) 0 0 tvJ [.long x0, .long x1] V (z, V) := by
  refine cm_of vwC_D (by decide +kernel) (own := RJ9) rfl (Nat.le_of_ble_eq_true rfl) (L := [some (.long x0), none, some (.long x1), none]) rfl hz (fun Γ => ?_)
  unfold f_J9_min_f86c9
  refine ag_lload_n dJ9_min_f86c9_0 rfl ?_
  refine ag_lload_n dJ9_min_f86c9_1 rfl ?_
  refine ag_lcmp dJ9_min_f86c9_2 ?_
  refine ag_dv (j := 11) (L1 := fun _ => [some (.long x0), none, some (.long x1), none]) (st1 := fun v1 => [.long v1]) (ws1 := fun _ => vwC cy bs kb V) (fun v1 => ?_) (fun k3 hk2 => ?_)
  · exact ag_lrp dJ9_min_f86c9_11
  · refine ag_if_gt_v (tgt := 10) dJ9_min_f86c9_3 (by decide) (fun h4 => ?_) (fun h4 => ?_)
    · refine ag_lload_n dJ9_min_f86c9_10 rfl ?_
      exact hk2 x1
    · refine ag_lload_n dJ9_min_f86c9_6 rfl ?_
      refine ag_goto (tgt := 11) dJ9_min_f86c9_7 (by decide) ?_
      exact hk2 x0
set_option maxRecDepth 100000 in
set_option maxHeartbeats 4000000 in
theorem c_X9_isWokenBefore {l : Launch} {D : va_G} {cy : Nat → ClassId} {bs kb : Nat} {V : HV} (o0 : Nat) (o1 : Nat) (ho0 : o0 < 6) (ho1 : o1 < 6) {z : Bool} (hz : f_X9_isWokenBefore kb o0 o1 V = z) : CM l (aG 737 bs) D (tyL cy) (vwC cy bs kb) yX9_isWokenBefore cX9_isWokenBefore 2 (some .boolean) 0 0 tvZ [.ref (bs + posC 7 o0), .ref (bs + posC 7 o1)] V (z, V) := by
  refine cm_of vwC_D (by decide +kernel) (own := RX9) rfl (Nat.le_of_ble_eq_true rfl) (L := [some (.ref (bs + posC 7 o0)), some (.ref (bs + posC 7 o1))]) rfl hz (fun Γ => ?_)
  unfold f_X9_isWokenBefore
  refine ag_aload_n dX9_isWokenBefore_0 rfl ?_
  refine gC_X9_priority ho0 fl_X9_33 dX9_isWokenBefore_1 ?_
  refine ag_aload_n dX9_isWokenBefore_4 rfl ?_
  refine gC_X9_priority ho1 fl_X9_33 dX9_isWokenBefore_5 ?_
  refine ag_dv (j := 38) (L1 := fun _ => [some (.ref (bs + posC 7 o0)), some (.ref (bs + posC 7 o1))]) (st1 := fun v1 => [.int (b2i v1)]) (ws1 := fun _ => vwC cy bs kb V) (fun v1 => ?_) (fun k3 hk2 => ?_)
  · exact ag_zrp (x := v1) dX9_isWokenBefore_38
  · refine ag_icmp_gt_v (tgt := 33) dX9_isWokenBefore_8 (by decide) (fun h4 => ?_) (fun h4 => ?_)
    · refine ag_iconst (v := 1) dX9_isWokenBefore_33 (by decide) ?_
      refine ag_goto (tgt := 38) dX9_isWokenBefore_34 (by decide) ?_
      exact hk2 true
    · refine ag_aload_n dX9_isWokenBefore_11 rfl ?_
      refine gC_X9_priority ho0 fl_X9_33 dX9_isWokenBefore_12 ?_
      refine ag_aload_n dX9_isWokenBefore_15 rfl ?_
      refine gC_X9_priority ho1 fl_X9_33 dX9_isWokenBefore_16 ?_
      refine ag_icmp_ne_v (tgt := 37) dX9_isWokenBefore_19 (by decide) (fun h5 => ?_) (fun h5 => ?_)
      · refine ag_iconst (v := 0) dX9_isWokenBefore_37 (by decide) ?_
        exact hk2 false
      · refine ag_aload_n dX9_isWokenBefore_22 rfl ?_
        refine gC_X9_waitSince ho0 fl_X9_61 dX9_isWokenBefore_23 ?_
        refine ag_aload_n dX9_isWokenBefore_26 rfl ?_
        refine gC_X9_waitSince ho1 fl_X9_61 dX9_isWokenBefore_27 ?_
        refine ag_icmp_ge_v (tgt := 37) dX9_isWokenBefore_30 (by decide) (fun h6 => ?_) (fun h6 => ?_)
        · refine ag_iconst (v := 0) dX9_isWokenBefore_37 (by decide) ?_
          exact hk2 false
        · refine ag_iconst (v := 1) dX9_isWokenBefore_33 (by decide) ?_
          refine ag_goto (tgt := 38) dX9_isWokenBefore_34 (by decide) ?_
          exact hk2 true
set_option maxRecDepth 100000 in
set_option maxHeartbeats 4000000 in
theorem c_X7_nextToWake {l : Launch} {D : va_G} {cy : Nat → ClassId} {bs kb : Nat} {V : HV} (o0 : Nat) (x1 : Int32) (ho0 : o0 < 1) {z : Option Nat} (hz : f_X7_nextToWake kb o0 x1 V = some z) : CM l (aG 737 bs) D (tyL cy) (vwC cy bs kb) yX7_nextToWake cX7_nextToWake 5 (some (.object "SweptGrants$Task")) 1 21 (tvO (fun x => bs + posC 7 x)) [.ref (bs + posC 8 o0), .int x1] V (z, V) := by
  refine cm_of vwC_D (by decide +kernel) (own := RX7) rfl (Nat.le_of_ble_eq_true rfl) (L := [some (.ref (bs + posC 8 o0)), some (.int x1), none, none, none]) rfl hz (fun Γ => ?_)
  unfold f_X7_nextToWake
  refine ag_null dX7_nextToWake_0 ?_
  refine ag_nstore_n (L' := [some (.ref (bs + posC 8 o0)), some (.int x1), some (.null), none, none]) dX7_nextToWake_1 (by decide) rfl ?_
  refine ag_iconst (v := 0) dX7_nextToWake_2 (by decide) ?_
  refine ag_istore_n (L' := [some (.ref (bs + posC 8 o0)), some (.int x1), some (.null), some (.int 0), none]) dX7_nextToWake_3 (by decide) rfl ?_
  refine ag_jn1 (j := 60) (L1 := fun r3 => [some (.ref (bs + posC 8 o0)), some (.int x1), some (va_rf (r3.map (fun x => bs + posC 7 x))), none, none]) (st1 := fun r3 => []) (ws1 := fun r3 => vwC cy bs kb V) (fun r3 => ?_) (fun k1 hk2 => ?_)
  · refine ag_oload_n dX7_nextToWake_60 rfl ?_
    exact ag_orpp (x := r3) dX7_nextToWake_61
  · refine ag_loop2 (F := f_X7_nextToWake_L4 o0 x1 kb V k1) (L1 := fun r4 v5 => [some (.ref (bs + posC 8 o0)), some (.int x1), some (va_rf (r4.map (fun x => bs + posC 7 x))), some (.int v5), none]) (st1 := fun r4 v5 => []) (ws1 := fun r4 v5 => vwC cy bs kb V) (fun n6 ih7 r4 v5 => ?_) (fun _ _ => rfl) FU none 0
    rw [f_X7_nextToWake_L4]
    refine ag_iload_n dX7_nextToWake_4 rfl ?_
    refine ag_aload_n dX7_nextToWake_5 rfl ?_
    refine gC_X10_taskCount ho0 fl_X7_174 dX7_nextToWake_6 ?_
    refine ag_icmp_ge (tgt := 60) dX7_nextToWake_9 (by decide) (fun h8 => ?_) (fun h8 => ?_)
    · refine ag_drop [3] (L' := [some (.ref (bs + posC 8 o0)), some (.int x1), some (va_rf (r4.map (fun x => bs + posC 7 x))), none, none]) rfl ?_
      exact hk2 r4
    · refine ag_aload_n dX7_nextToWake_12 rfl ?_
      refine gC_X10_tasks ho0 fl_X7_177 dX7_nextToWake_13 ?_
      refine ag_iload_n dX7_nextToWake_16 rfl ?_
      refine ag_chk (fun h9 => ?_)
      have qh9 := inb_lt h9
      refine aC_22 (by decide) h9 dX7_nextToWake_17 ?_
      refine ag_astore (L' := [some (.ref (bs + posC 8 o0)), some (.int x1), some (va_rf (r4.map (fun x => bs + posC 7 x))), some (.int v5), some (.ref (bs + posC 7 ((v5).toNatClampNeg)))]) dX7_nextToWake_18 (by decide) rfl ?_
      refine ag_aload dX7_nextToWake_20 rfl ?_
      refine gC_X9_state (by omega) fl_X7_105 dX7_nextToWake_22 ?_
      refine ag_iconst (v := 2) dX7_nextToWake_25 (by decide) ?_
      refine ag_jn1 (j := 54) (L1 := fun r10 => [some (.ref (bs + posC 8 o0)), some (.int x1), some (va_rf (r10.map (fun x => bs + posC 7 x))), some (.int v5), some (.ref (bs + posC 7 ((v5).toNatClampNeg)))]) (st1 := fun r10 => []) (ws1 := fun r10 => vwC cy bs kb V) (fun r10 => ?_) (fun k11 hk12 => ?_)
      · refine ag_iincL (L' := fun v13 => [some (.ref (bs + posC 8 o0)), some (.int x1), some (va_rf (r10.map (fun x => bs + posC 7 x))), some (.int v13), some (.ref (bs + posC 7 ((v5).toNatClampNeg)))]) dX7_nextToWake_54 (by decide) rfl (by decide) (fun _ => (by cases r10 <;> rfl)) (fun v13 => ?_)
        refine ag_goto (tgt := 4) dX7_nextToWake_57 (by decide) ?_
        refine ag_drop [4] (L' := [some (.ref (bs + posC 8 o0)), some (.int x1), some (va_rf (r10.map (fun x => bs + posC 7 x))), some (.int v13), none]) rfl ?_
        exact ih7 r10 v13
      · refine ag_icmp_ne (tgt := 54) dX7_nextToWake_26 (by decide) (fun h14 => ?_) (fun h14 => ?_)
        · exact hk12 r4
        · refine ag_aload dX7_nextToWake_29 rfl ?_
          refine gC_X9_waitAddress (by omega) fl_X7_153 dX7_nextToWake_31 ?_
          refine ag_iload_n dX7_nextToWake_34 rfl ?_
          refine ag_icmp_ne (tgt := 54) dX7_nextToWake_35 (by decide) (fun h15 => ?_) (fun h15 => ?_)
          · exact hk12 r4
          · refine ag_oload_n dX7_nextToWake_38 rfl ?_
            refine ag_jn0 (j := 51) (L1 := [some (.ref (bs + posC 8 o0)), some (.int x1), some (va_rf (r4.map (fun x => bs + posC 7 x))), some (.int v5), some (.ref (bs + posC 7 ((v5).toNatClampNeg)))]) (st1 := []) (ws1 := vwC cy bs kb V) (?_) (fun k16 hk17 => ?_)
            · refine ag_aload dX7_nextToWake_51 rfl ?_
              refine ag_astore_n (L' := [some (.ref (bs + posC 8 o0)), some (.int x1), some (.ref (bs + posC 7 ((v5).toNatClampNeg))), some (.int v5), some (.ref (bs + posC 7 ((v5).toNatClampNeg)))]) dX7_nextToWake_53 (by decide) rfl ?_
              exact hk12 (some ((v5).toNatClampNeg))
            · refine ag_ifnull (tgt := 51) dX7_nextToWake_39 (by decide) (fun eh19 => ?_) (fun a18 eh19 => ?_)
              · subst eh19
                refine ag_Lc (L' := [some (.ref (bs + posC 8 o0)), some (.int x1), some (.null), some (.int v5), some (.ref (bs + posC 7 ((v5).toNatClampNeg)))]) rfl ?_
                exact hk17
              · subst eh19
                refine ag_chk (fun h19 => ?_)
                refine ag_Lc (L' := [some (.ref (bs + posC 8 o0)), some (.int x1), some (.ref (bs + posC 7 a18)), some (.int v5), some (.ref (bs + posC 7 ((v5).toNatClampNeg)))]) rfl ?_
                refine ag_aload dX7_nextToWake_42 rfl ?_
                refine ag_aload_n dX7_nextToWake_44 rfl ?_
                refine ag_ivZp (c_X9_isWokenBefore ((v5).toNatClampNeg) a18 (by omega) h19 rfl) vwC_D (vwC_at (kpC_7 _ (by omega))) rfl cs_X7_181 rfl rfl (Nat.le_of_ble_eq_true rfl) ⟨by decide, by decide⟩ ⟨Nat.zero_le _, Nat.zero_le _⟩ dX7_nextToWake_45 ?_
                refine ag_ltZ (fun v20 => ?_)
                refine ag_bif_eq (tgt := 54) dX7_nextToWake_48 (by decide) (fun h21 => ?_) (fun h21 => ?_)
                · exact hk12 (some a18)
                · exact hk17
set_option maxRecDepth 100000 in
set_option maxHeartbeats 4000000 in
theorem c_X9_becomeReady {l : Launch} {D : va_G} {cy : Nat → ClassId} {bs kb : Nat} {V : HV} (o0 : Nat) (ho0 : o0 < 6) {z : HV} (hz : f_X9_becomeReady kb o0 V = z) : CM l (aG 737 bs) D (tyL cy) (vwC cy bs kb) yX9_becomeReady cX9_becomeReady 1 none 0 0 tvV [.ref (bs + posC 7 o0)] V ((), z) := by
  refine cm_of vwC_D (by decide +kernel) (own := RX9) rfl (Nat.le_of_ble_eq_true rfl) (L := [some (.ref (bs + posC 7 o0))]) rfl hz (fun Γ => ?_)
  unfold f_X9_becomeReady
  refine ag_aload_n dX9_becomeReady_0 rfl ?_
  refine ag_iconst (v := 0) dX9_becomeReady_1 (by decide) ?_
  refine pC_X9_state ho0 fl_X9_52 dX9_becomeReady_2 ?_
  refine ag_ltV (fun V1 => ?_)
  refine ag_aload_n dX9_becomeReady_5 rfl ?_
  refine ag_iconst (v := (-1)) dX9_becomeReady_6 (by decide) ?_
  refine pC_X9_readyAt ho0 fl_X9_55 dX9_becomeReady_7 ?_
  refine ag_ltV (fun V2 => ?_)
  exact ag_vre dX9_becomeReady_10
set_option maxRecDepth 100000 in
set_option maxHeartbeats 4000000 in
theorem c_X7_wake {l : Launch} {D : va_G} {cy : Nat → ClassId} {bs kb : Nat} {V : HV} (o0 : Nat) (o1 : Nat) (ho0 : o0 < 1) (ho1 : o1 < 6) {z : Int32 × HV} (hz : f_X7_wake kb o0 o1 V = some z) : CM l (aG 737 bs) D (tyL cy) (vwC cy bs kb) yX7_wake cX7_wake 8 (some .int) 3 69 tvI [.ref (bs + posC 8 o0), .ref (bs + posC 7 o1)] V z := by
  refine cm_of vwC_D (by decide +kernel) (own := RX7) rfl (Nat.le_of_ble_eq_true rfl) (L := [some (.ref (bs + posC 8 o0)), some (.ref (bs + posC 7 o1)), none, none, none, none, none, none]) rfl hz (fun Γ => ?_)
  unfold f_X7_wake
  refine ag_aload_n dX7_wake_0 rfl ?_
  refine ag_bipush (v := 10) dX7_wake_1 (by decide) ?_
  refine ag_ivRp (c_X9_reg o1 10 ho1 rfl) vwC_D (vwC_at (kpC_7 _ ho1)) rfl cs_X7_9 rfl rfl (Nat.le_of_ble_eq_true rfl) ⟨by decide, by decide⟩ ⟨Nat.zero_le _, Nat.zero_le _⟩ dX7_wake_3 ?_
  refine ag_astore_n (L' := [some (.ref (bs + posC 8 o0)), some (.ref (bs + posC 7 o1)), some (.ref (bs + posC 0 (f_X9_reg o1 10))), none, none, none, none, none]) dX7_wake_6 (by decide) rfl ?_
  refine ag_aload_n dX7_wake_7 rfl ?_
  refine ag_aload_n dX7_wake_8 rfl ?_
  refine ag_iconst (v := 2) dX7_wake_9 (by decide) ?_
  refine ag_isZp (c_X7_isWordFor o0 (f_X9_reg o1 10) 2 ho0 (ok_X9_reg ho1) rfl) vwC_D cs_X7_145 rfl rfl (Nat.le_of_ble_eq_true rfl) ⟨by decide, by decide⟩ ⟨Nat.zero_le _, Nat.zero_le _⟩ dX7_wake_10 ?_
  refine ag_ltZ (fun v1 => ?_)
  refine ag_bif_ne (tgt := 18) dX7_wake_13 (by decide) (fun h2 => ?_) (fun h2 => ?_)
  · refine ag_aload_n dX7_wake_18 rfl ?_
    refine ag_bipush (v := 11) dX7_wake_19 (by decide) ?_
    refine ag_ivRp (c_X9_reg o1 11 ho1 rfl) vwC_D (vwC_at (kpC_7 _ ho1)) rfl cs_X7_9 rfl rfl (Nat.le_of_ble_eq_true rfl) ⟨by decide, by decide⟩ ⟨Nat.zero_le _, Nat.zero_le _⟩ dX7_wake_21 ?_
    refine gC_X0_cursor (ok_X9_reg ho1) fl_X7_80 dX7_wake_24 ?_
    refine ag_inJp (c_X11_unsigned (V 0 (f_X9_reg o1 11) 0)  rfl) vwC_D cs_X7_83 rfl rfl (Nat.le_of_ble_eq_true rfl) ⟨by decide, by decide⟩ ⟨Nat.zero_le _, Nat.zero_le _⟩ dX7_wake_27 ?_
    refine ag_ltJ (fun v3 => ?_)
    refine ag_ldc2 kc_X7_159 dX7_wake_30 ?_
    refine ag_isJp (c_J9_min_f86c9 v3 (6 : Int64)  rfl) vwC_D cs_X7_161 rfl rfl (Nat.le_of_ble_eq_true rfl) ⟨by decide, by decide⟩ ⟨Nat.zero_le _, Nat.zero_le _⟩ dX7_wake_33 ?_
    refine ag_ltJ (fun v4 => ?_)
    refine ag_lstore_n (L' := [some (.ref (bs + posC 8 o0)), some (.ref (bs + posC 7 o1)), some (.ref (bs + posC 0 (f_X9_reg o1 10))), some (.long v4), none, none, none, none]) dX7_wake_36 (by decide) rfl ?_
    refine ag_iconst (v := 0) dX7_wake_37 (by decide) ?_
    refine ag_istore (L' := [some (.ref (bs + posC 8 o0)), some (.ref (bs + posC 7 o1)), some (.ref (bs + posC 0 (f_X9_reg o1 10))), some (.long v4), none, some (.int 0), none, none]) dX7_wake_38 (by decide) rfl ?_
    refine ag_iconst (v := 0) dX7_wake_40 (by decide) ?_
    refine ag_istore (L' := [some (.ref (bs + posC 8 o0)), some (.ref (bs + posC 7 o1)), some (.ref (bs + posC 0 (f_X9_reg o1 10))), some (.long v4), none, some (.int 0), some (.int 0), none]) dX7_wake_41 (by decide) rfl ?_
    refine ag_jn2 (j := 91) (L1 := fun v7 V8 => [some (.ref (bs + posC 8 o0)), some (.ref (bs + posC 7 o1)), some (.ref (bs + posC 0 (f_X9_reg o1 10))), some (.long v4), none, some (.int v7), none, none]) (st1 := fun v7 V8 => []) (ws1 := fun v7 V8 => vwC cy bs kb V8) (fun v7 V8 => ?_) (fun k5 hk6 => ?_)
    · refine ag_iload dX7_wake_91 rfl ?_
      exact ag_irep dX7_wake_93
    · refine ag_loop3 (F := f_X7_wake_L43 o0 o1 kb v4 k5) (L1 := fun v9 v10 V11 => [some (.ref (bs + posC 8 o0)), some (.ref (bs + posC 7 o1)), some (.ref (bs + posC 0 (f_X9_reg o1 10))), some (.long v4), none, some (.int v9), some (.int v10), none]) (st1 := fun v9 v10 V11 => []) (ws1 := fun v9 v10 V11 => vwC cy bs kb V11) (fun n12 ih13 v9 v10 V11 => ?_) (fun _ _ _ => rfl) FU 0 0 V
      rw [f_X7_wake_L43]
      refine ag_iload dX7_wake_43 rfl ?_
      refine ag_i2l dX7_wake_45 ?_
      refine ag_lload_n dX7_wake_46 rfl ?_
      refine ag_lcmp dX7_wake_47 ?_
      refine ag_if_ge (tgt := 91) dX7_wake_48 (by decide) (fun h14 => ?_) (fun h14 => ?_)
      · refine ag_drop [6] (L' := [some (.ref (bs + posC 8 o0)), some (.ref (bs + posC 7 o1)), some (.ref (bs + posC 0 (f_X9_reg o1 10))), some (.long v4), none, some (.int v9), none, none]) rfl ?_
        exact hk6 v9 V11
      · refine ag_aload_n dX7_wake_51 rfl ?_
        refine ag_aload_n dX7_wake_52 rfl ?_
        refine gC_X0_cursor (ok_X9_reg ho1) fl_X7_80 dX7_wake_53 ?_
        refine ag_bnd (fun p15 hp15 => ?_)
        refine ag_isOp (c_X7_nextToWake o0 (V11 0 (f_X9_reg o1 10) 0) ho0 hp15) vwC_D cs_X7_167 rfl rfl (Nat.le_of_ble_eq_true rfl) ⟨by decide, by decide⟩ ⟨Nat.zero_le _, Nat.zero_le _⟩ dX7_wake_56 ?_
        refine ag_ostore (L' := [some (.ref (bs + posC 8 o0)), some (.ref (bs + posC 7 o1)), some (.ref (bs + posC 0 (f_X9_reg o1 10))), some (.long v4), none, some (.int v9), some (.int v10), some (va_rf (p15.map (fun x => bs + posC 7 x)))]) dX7_wake_59 (by decide) rfl ?_
        refine ag_oload dX7_wake_61 rfl ?_
        refine ag_jn2 (j := 85) (L1 := fun v16 V17 => [some (.ref (bs + posC 8 o0)), some (.ref (bs + posC 7 o1)), some (.ref (bs + posC 0 (f_X9_reg o1 10))), some (.long v4), none, some (.int v16), some (.int v10), some (va_rf (p15.map (fun x => bs + posC 7 x)))]) (st1 := fun v16 V17 => []) (ws1 := fun v16 V17 => vwC cy bs kb V17) (fun v16 V17 => ?_) (fun k18 hk19 => ?_)
        · refine ag_iincL (L' := fun v20 => [some (.ref (bs + posC 8 o0)), some (.ref (bs + posC 7 o1)), some (.ref (bs + posC 0 (f_X9_reg o1 10))), some (.long v4), none, some (.int v16), some (.int v20), some (va_rf (p15.map (fun x => bs + posC 7 x)))]) dX7_wake_85 (by decide) rfl (by decide) (fun _ => rfl) (fun v20 => ?_)
          refine ag_goto (tgt := 43) dX7_wake_88 (by decide) ?_
          refine ag_drop [7] (L' := [some (.ref (bs + posC 8 o0)), some (.ref (bs + posC 7 o1)), some (.ref (bs + posC 0 (f_X9_reg o1 10))), some (.long v4), none, some (.int v16), some (.int v20), none]) rfl ?_
          exact ih13 v16 v20 V17
        · refine ag_ifnull (tgt := 85) dX7_wake_63 (by decide) (fun eh22 => ?_) (fun a21 eh22 => ?_)
          · subst eh22
            refine ag_Lc (L' := [some (.ref (bs + posC 8 o0)), some (.ref (bs + posC 7 o1)), some (.ref (bs + posC 0 (f_X9_reg o1 10))), some (.long v4), none, some (.int v9), some (.int v10), some (.null)]) rfl ?_
            exact hk19 v9 V11
          · subst eh22
            refine ag_chk (fun h22 => ?_)
            refine ag_Lc (L' := [some (.ref (bs + posC 8 o0)), some (.ref (bs + posC 7 o1)), some (.ref (bs + posC 0 (f_X9_reg o1 10))), some (.long v4), none, some (.int v9), some (.int v10), some (.ref (bs + posC 7 a21))]) rfl ?_
            refine ag_aload dX7_wake_66 rfl ?_
            refine ag_ivVe (c_X9_becomeReady a21 h22 rfl) vwC_D (vwC_at (kpC_7 _ h22)) rfl cs_X7_171 rfl rfl (Nat.le_of_ble_eq_true rfl) ⟨by decide, by decide⟩ ⟨Nat.zero_le _, Nat.zero_le _⟩ dX7_wake_68 ?_
            refine ag_ltV (fun V23 => ?_)
            refine ag_aload dX7_wake_71 rfl ?_
            refine ag_bipush (v := 10) dX7_wake_73 (by decide) ?_
            refine ag_ivRp (c_X9_reg a21 10 h22 rfl) vwC_D (vwC_at (kpC_7 _ h22)) rfl cs_X7_9 rfl rfl (Nat.le_of_ble_eq_true rfl) ⟨by decide, by decide⟩ ⟨Nat.zero_le _, Nat.zero_le _⟩ dX7_wake_75 ?_
            refine ag_iconst (v := 0) dX7_wake_78 (by decide) ?_
            refine ag_ivVe (c_X0_number (f_X9_reg a21 10) 0 (ok_X9_reg h22) rfl) vwC_D (vwC_at (kpC_0 _ (ok_X9_reg h22))) rfl cs_X7_31 rfl rfl (Nat.le_of_ble_eq_true rfl) ⟨by decide, by decide⟩ ⟨Nat.zero_le _, Nat.zero_le _⟩ dX7_wake_79 ?_
            refine ag_ltV (fun V24 => ?_)
            refine ag_iincL (L' := fun v25 => [some (.ref (bs + posC 8 o0)), some (.ref (bs + posC 7 o1)), some (.ref (bs + posC 0 (f_X9_reg o1 10))), some (.long v4), none, some (.int v25), some (.int v10), some (.ref (bs + posC 7 a21))]) dX7_wake_82 (by decide) rfl (by decide) (fun _ => rfl) (fun v25 => ?_)
            exact hk19 v25 V24
  · refine ag_iconst (v := (-1)) dX7_wake_16 (by decide) ?_
    exact ag_irep dX7_wake_17
set_option maxRecDepth 100000 in
set_option maxHeartbeats 4000000 in
theorem c_X4_freeBytes {l : Launch} {D : va_G} {cy : Nat → ClassId} {bs kb : Nat} {V : HV} (o0 : Nat) (ho0 : o0 < 1) {z : Int32} (hz : f_X4_freeBytes kb o0 V = z) : CM l (aG 737 bs) D (tyL cy) (vwC cy bs kb) yX4_freeBytes cX4_freeBytes 1 (some .int) 1 20 tvI [.ref (bs + posC 3 o0)] V (z, V) := by
  refine cm_of vwC_D (by decide +kernel) (own := RX4) rfl (Nat.le_of_ble_eq_true rfl) (L := [some (.ref (bs + posC 3 o0))]) rfl hz (fun Γ => ?_)
  unfold f_X4_freeBytes
  refine ag_aload_n dX4_freeBytes_0 rfl ?_
  refine ag_ivIp (c_X4_bytes o0 ho0 rfl) vwC_D (vwC_at (kpC_3 _ ho0)) rfl cs_X4_53 rfl rfl (Nat.le_of_ble_eq_true rfl) ⟨by decide, by decide⟩ ⟨Nat.zero_le _, Nat.zero_le _⟩ dX4_freeBytes_1 ?_
  refine ag_ltI (fun v1 => ?_)
  refine ag_aload_n dX4_freeBytes_4 rfl ?_
  refine gC_X4_given ho0 fl_X4_40 dX4_freeBytes_5 ?_
  refine ag_aload_n dX4_freeBytes_8 rfl ?_
  refine gC_X4_held ho0 fl_X4_43 dX4_freeBytes_9 ?_
  refine ag_iadd dX4_freeBytes_12 ?_
  refine ag_bipush (v := 16) dX4_freeBytes_13 (by decide) ?_
  refine ag_imul dX4_freeBytes_15 ?_
  refine ag_isub dX4_freeBytes_16 ?_
  exact ag_irp dX4_freeBytes_17
set_option maxRecDepth 100000 in
set_option maxHeartbeats 4000000 in
theorem c_X9_filterBy {l : Launch} {D : va_G} {cy : Nat → ClassId} {bs kb : Nat} {V : HV} (o0 : Nat) (o1 : Nat) (ho0 : o0 < 6) (ho1 : o1 < 1) {z : HV} (hz : f_X9_filterBy kb o0 o1 V = some z) : CM l (aG 737 bs) D (tyL cy) (vwC cy bs kb) yX9_filterBy cX9_filterBy 6 none 2 44 tvV [.ref (bs + posC 7 o0), .ref (bs + posC 6 o1)] V ((), z) := by
  refine cm_of vwC_D (by decide +kernel) (own := RX9) rfl (Nat.le_of_ble_eq_true rfl) (L := [some (.ref (bs + posC 7 o0)), some (.ref (bs + posC 6 o1)), none, none, none, none]) rfl hz (fun Γ => ?_)
  unfold f_X9_filterBy
  refine ag_aload_n dX9_filterBy_0 rfl ?_
  refine gC_X9_regs ho0 fl_X9_13 dX9_filterBy_1 ?_
  refine ag_astore_n (L' := [some (.ref (bs + posC 7 o0)), some (.ref (bs + posC 6 o1)), some (.ref (bs + posC 29 o0)), none, none, none]) dX9_filterBy_4 (by decide) rfl ?_
  refine ag_aload_n dX9_filterBy_5 rfl ?_
  refine nC_29 ho0 dX9_filterBy_6 ?_
  refine ag_ltI (fun v1 => ?_)
  refine ag_istore_n (L' := [some (.ref (bs + posC 7 o0)), some (.ref (bs + posC 6 o1)), some (.ref (bs + posC 29 o0)), some (.int v1), none, none]) dX9_filterBy_7 (by decide) rfl ?_
  refine ag_iconst (v := 0) dX9_filterBy_8 (by decide) ?_
  refine ag_istore (L' := [some (.ref (bs + posC 7 o0)), some (.ref (bs + posC 6 o1)), some (.ref (bs + posC 29 o0)), some (.int v1), some (.int 0), none]) dX9_filterBy_9 (by decide) rfl ?_
  refine ag_jn1 (j := 35) (L1 := fun V4 => [some (.ref (bs + posC 7 o0)), some (.ref (bs + posC 6 o1)), some (.ref (bs + posC 29 o0)), some (.int v1), none, none]) (st1 := fun V4 => []) (ws1 := fun V4 => vwC cy bs kb V4) (fun V4 => ?_) (fun k2 hk3 => ?_)
  · refine ag_aload_n dX9_filterBy_35 rfl ?_
    refine ag_aload_n dX9_filterBy_36 rfl ?_
    refine gC_X9_pcc ho0 fl_X9_18 dX9_filterBy_37 ?_
    refine ag_bnd (fun p5 hp5 => ?_)
    refine ag_ivVe (c_X8_filter o1 (17 * o0 + 16) ho1 (by omega) hp5) vwC_D (vwC_at (kpC_6 _ ho1)) rfl cs_X9_177 rfl rfl (Nat.le_of_ble_eq_true rfl) ⟨by decide, by decide⟩ ⟨Nat.zero_le _, Nat.zero_le _⟩ dX9_filterBy_40 ?_
    exact ag_vrep dX9_filterBy_43
  · refine ag_loop2 (F := f_X9_filterBy_L11 o0 o1 kb v1 k2) (L1 := fun v6 V7 => [some (.ref (bs + posC 7 o0)), some (.ref (bs + posC 6 o1)), some (.ref (bs + posC 29 o0)), some (.int v1), some (.int v6), none]) (st1 := fun v6 V7 => []) (ws1 := fun v6 V7 => vwC cy bs kb V7) (fun n8 ih9 v6 V7 => ?_) (fun _ _ => rfl) FU 0 V
    rw [f_X9_filterBy_L11]
    refine ag_iload dX9_filterBy_11 rfl ?_
    refine ag_iload_n dX9_filterBy_13 rfl ?_
    refine ag_icmp_ge (tgt := 35) dX9_filterBy_14 (by decide) (fun h10 => ?_) (fun h10 => ?_)
    · refine ag_drop [4] (L' := [some (.ref (bs + posC 7 o0)), some (.ref (bs + posC 6 o1)), some (.ref (bs + posC 29 o0)), some (.int v1), none, none]) rfl ?_
      exact hk3 V7
    · refine ag_aload_n dX9_filterBy_17 rfl ?_
      refine ag_iload dX9_filterBy_18 rfl ?_
      refine ag_chk (fun h11 => ?_)
      have qh11 := inb_lt h11
      refine aC_29 ho0 h11 dX9_filterBy_20 ?_
      refine ag_astore (L' := [some (.ref (bs + posC 7 o0)), some (.ref (bs + posC 6 o1)), some (.ref (bs + posC 29 o0)), some (.int v1), some (.int v6), some (.ref (bs + posC 0 (17 * o0 + (v6).toNatClampNeg)))]) dX9_filterBy_21 (by decide) rfl ?_
      refine ag_aload_n dX9_filterBy_23 rfl ?_
      refine ag_aload dX9_filterBy_24 rfl ?_
      refine ag_bnd (fun p12 hp12 => ?_)
      refine ag_ivVe (c_X8_filter o1 (17 * o0 + (v6).toNatClampNeg) ho1 (by omega) hp12) vwC_D (vwC_at (kpC_6 _ ho1)) rfl cs_X9_177 rfl rfl (Nat.le_of_ble_eq_true rfl) ⟨by decide, by decide⟩ ⟨Nat.zero_le _, Nat.zero_le _⟩ dX9_filterBy_26 ?_
      refine ag_iincL (L' := fun v13 => [some (.ref (bs + posC 7 o0)), some (.ref (bs + posC 6 o1)), some (.ref (bs + posC 29 o0)), some (.int v1), some (.int v13), some (.ref (bs + posC 0 (17 * o0 + (v6).toNatClampNeg)))]) dX9_filterBy_29 (by decide) rfl (by decide) (fun _ => rfl) (fun v13 => ?_)
      refine ag_goto (tgt := 11) dX9_filterBy_32 (by decide) ?_
      refine ag_drop [5] (L' := [some (.ref (bs + posC 7 o0)), some (.ref (bs + posC 6 o1)), some (.ref (bs + posC 29 o0)), some (.int v1), some (.int v13), none]) rfl ?_
      exact ih9 v13 p12
set_option maxRecDepth 100000 in
set_option maxHeartbeats 4000000 in
theorem c_X7_serve {l : Launch} {D : va_G} {cy : Nat → ClassId} {bs kb : Nat} {V : HV} (o0 : Nat) (o1 : Nat) (x2 : Int32) (ho0 : o0 < 1) (ho1 : o1 < 6) {z : HV} (hz : f_X7_serve kb o0 o1 x2 V = some z) : CM l (aG 737 bs) D (tyL cy) (vwC cy bs kb) yX7_serve cX7_serve 4 none 4 96 tvV [.ref (bs + posC 8 o0), .ref (bs + posC 7 o1), .int x2] V ((), z) := by
  refine cm_of vwC_D (by decide +kernel) (own := RX7) rfl (Nat.le_of_ble_eq_true rfl) (L := [some (.ref (bs + posC 8 o0)), some (.ref (bs + posC 7 o1)), some (.int x2), none]) rfl hz (fun Γ => ?_)
  unfold f_X7_serve
  refine ag_aload_n dX7_serve_0 rfl ?_
  refine ag_bipush (v := 10) dX7_serve_1 (by decide) ?_
  refine ag_ivRp (c_X9_reg o1 10 ho1 rfl) vwC_D (vwC_at (kpC_7 _ ho1)) rfl cs_X7_9 rfl rfl (Nat.le_of_ble_eq_true rfl) ⟨by decide, by decide⟩ ⟨Nat.zero_le _, Nat.zero_le _⟩ dX7_serve_3 ?_
  refine ag_astore_n (L' := [some (.ref (bs + posC 8 o0)), some (.ref (bs + posC 7 o1)), some (.int x2), some (.ref (bs + posC 0 (f_X9_reg o1 10)))]) dX7_serve_6 (by decide) rfl ?_
  refine ag_aload_n dX7_serve_7 rfl ?_
  refine ag_dup dX7_serve_8 rfl ?_
  refine gC_X10_services ho0 fl_X7_15 dX7_serve_9 ?_
  refine ag_iconst (v := 1) dX7_serve_12 (by decide) ?_
  refine ag_iadd dX7_serve_13 ?_
  refine pC_X10_services ho0 fl_X7_15 dX7_serve_14 ?_
  refine ag_ltV (fun V1 => ?_)
  refine ag_iload_n dX7_serve_17 rfl ?_
  refine ag_jn1 (j := 171) (L1 := fun V2 => [some (.ref (bs + posC 8 o0)), some (.ref (bs + posC 7 o1)), some (.int x2), some (.ref (bs + posC 0 (f_X9_reg o1 10)))]) (st1 := fun V2 => []) (ws1 := fun V2 => vwC cy bs kb V2) (fun V2 => ?_) (fun k3 hk4 => ?_)
  · refine ag_aload_n dX7_serve_171 rfl ?_
    refine ag_bipush (v := 11) dX7_serve_172 (by decide) ?_
    refine ag_ivRp (c_X9_reg o1 11 ho1 rfl) vwC_D (vwC_at (kpC_7 _ ho1)) rfl cs_X7_9 rfl rfl (Nat.le_of_ble_eq_true rfl) ⟨by decide, by decide⟩ ⟨Nat.zero_le _, Nat.zero_le _⟩ dX7_serve_174 ?_
    refine ag_ivVe (c_X0_clear (f_X9_reg o1 11) (ok_X9_reg ho1) rfl) vwC_D (vwC_at (kpC_0 _ (ok_X9_reg ho1))) rfl cs_X7_66 rfl rfl (Nat.le_of_ble_eq_true rfl) ⟨by decide, by decide⟩ ⟨Nat.zero_le _, Nat.zero_le _⟩ dX7_serve_177 ?_
    refine ag_ltV (fun V5 => ?_)
    refine ag_aload_n dX7_serve_180 rfl ?_
    refine ag_bnd (fun p6 hp6 => ?_)
    refine ag_ivVe (c_X9_forgetOthers o1 ho1 hp6) vwC_D (vwC_at (kpC_7 _ ho1)) rfl cs_X7_69 rfl rfl (Nat.le_of_ble_eq_true rfl) ⟨by decide, by decide⟩ ⟨Nat.zero_le _, Nat.zero_le _⟩ dX7_serve_181 ?_
    refine ag_aload_n dX7_serve_184 rfl ?_
    refine ag_aload_n dX7_serve_185 rfl ?_
    refine gC_X10_store ho0 fl_X7_72 dX7_serve_186 ?_
    refine ag_bnd (fun p7 hp7 => ?_)
    refine ag_ivVe (c_X9_filterBy o1 0 ho1 (by decide) hp7) vwC_D (vwC_at (kpC_7 _ ho1)) rfl cs_X7_76 rfl rfl (Nat.le_of_ble_eq_true rfl) ⟨by decide, by decide⟩ ⟨Nat.zero_le _, Nat.zero_le _⟩ dX7_serve_189 ?_
    exact ag_vrep dX7_serve_192
  · refine ag_if (fun h8 => ?_) (fun h8 => ?_)
    · refine ag_tab (off := 46) (tgt := 64) h8 dX7_serve_18 (by decide) (by decide) (by decide) (by decide) ?_
      refine ag_aload_n dX7_serve_64 rfl ?_
      refine ag_aload_n dX7_serve_65 rfl ?_
      refine ag_bnd (fun p9 hp9 => ?_)
      refine ag_isVe (c_X7_allocate o0 o1 ho0 ho1 hp9) vwC_D cs_X7_21 rfl rfl (Nat.le_of_ble_eq_true rfl) ⟨by decide, by decide⟩ ⟨Nat.zero_le _, Nat.zero_le _⟩ dX7_serve_66 ?_
      refine ag_goto (tgt := 171) dX7_serve_69 (by decide) ?_
      exact hk4 p9
    · refine ag_if (fun h10 => ?_) (fun h10 => ?_)
      · refine ag_tab (off := 54) (tgt := 72) h10 dX7_serve_18 (by decide) (by decide) (by decide) (by decide) ?_
        refine ag_aload_n dX7_serve_72 rfl ?_
        refine ag_aload_n dX7_serve_73 rfl ?_
        refine ag_aload_n dX7_serve_74 rfl ?_
        refine ag_bnd (fun p11 hp11 => ?_)
        refine ag_isIe (c_X7_release o0 (f_X9_reg o1 10) ho0 (ok_X9_reg ho1) hp11) vwC_D cs_X7_27 rfl rfl (Nat.le_of_ble_eq_true rfl) ⟨by decide, by decide⟩ ⟨Nat.zero_le _, Nat.zero_le _⟩ dX7_serve_75 ?_
        refine ag_ivVe (c_X0_number (f_X9_reg o1 10) p11.1 (ok_X9_reg ho1) rfl) vwC_D (vwC_at (kpC_0 _ (ok_X9_reg ho1))) rfl cs_X7_31 rfl rfl (Nat.le_of_ble_eq_true rfl) ⟨by decide, by decide⟩ ⟨Nat.zero_le _, Nat.zero_le _⟩ dX7_serve_78 ?_
        refine ag_ltV (fun V12 => ?_)
        refine ag_goto (tgt := 171) dX7_serve_81 (by decide) ?_
        exact hk4 V12
      · refine ag_if (fun h13 => ?_) (fun h13 => ?_)
        · refine ag_tab (off := 66) (tgt := 84) h13 dX7_serve_18 (by decide) (by decide) (by decide) (by decide) ?_
          refine ag_aload_n dX7_serve_84 rfl ?_
          refine ag_iconst (v := (-1)) dX7_serve_85 (by decide) ?_
          refine pC_X10_current ho0 fl_X7_37 dX7_serve_86 ?_
          refine ag_ltV (fun V14 => ?_)
          refine ag_aload_n dX7_serve_89 rfl ?_
          refine ag_iconst (v := 0) dX7_serve_90 (by decide) ?_
          refine ag_ivVe (c_X0_number (f_X9_reg o1 10) 0 (ok_X9_reg ho1) rfl) vwC_D (vwC_at (kpC_0 _ (ok_X9_reg ho1))) rfl cs_X7_31 rfl rfl (Nat.le_of_ble_eq_true rfl) ⟨by decide, by decide⟩ ⟨Nat.zero_le _, Nat.zero_le _⟩ dX7_serve_91 ?_
          refine ag_ltV (fun V15 => ?_)
          refine ag_goto (tgt := 171) dX7_serve_94 (by decide) ?_
          exact hk4 V15
        · refine ag_if (fun h16 => ?_) (fun h16 => ?_)
          · refine ag_tab (off := 79) (tgt := 97) h16 dX7_serve_18 (by decide) (by decide) (by decide) (by decide) ?_
            refine ag_aload_n dX7_serve_97 rfl ?_
            refine ag_aload_n dX7_serve_98 rfl ?_
            refine ag_aload_n dX7_serve_99 rfl ?_
            refine ag_isIe (c_X7_sleep o0 o1 ho0 ho1 rfl) vwC_D cs_X7_40 rfl rfl (Nat.le_of_ble_eq_true rfl) ⟨by decide, by decide⟩ ⟨Nat.zero_le _, Nat.zero_le _⟩ dX7_serve_100 ?_
            refine ag_ltIV (fun p17 => ?_)
            refine ag_ivVe (c_X0_number (f_X9_reg o1 10) p17.1 (ok_X9_reg ho1) rfl) vwC_D (vwC_at (kpC_0 _ (ok_X9_reg ho1))) rfl cs_X7_31 rfl rfl (Nat.le_of_ble_eq_true rfl) ⟨by decide, by decide⟩ ⟨Nat.zero_le _, Nat.zero_le _⟩ dX7_serve_103 ?_
            refine ag_ltV (fun V18 => ?_)
            refine ag_goto (tgt := 171) dX7_serve_106 (by decide) ?_
            exact hk4 V18
          · refine ag_if (fun h19 => ?_) (fun h19 => ?_)
            · refine ag_tab (off := 91) (tgt := 109) h19 dX7_serve_18 (by decide) (by decide) (by decide) (by decide) ?_
              refine ag_aload_n dX7_serve_109 rfl ?_
              refine ag_aload_n dX7_serve_110 rfl ?_
              refine ag_aload_n dX7_serve_111 rfl ?_
              refine ag_bnd (fun p20 hp20 => ?_)
              refine ag_isIe (c_X7_await o0 o1 ho0 ho1 hp20) vwC_D cs_X7_44 rfl rfl (Nat.le_of_ble_eq_true rfl) ⟨by decide, by decide⟩ ⟨Nat.zero_le _, Nat.zero_le _⟩ dX7_serve_112 ?_
              refine ag_ivVe (c_X0_number (f_X9_reg o1 10) p20.1 (ok_X9_reg ho1) rfl) vwC_D (vwC_at (kpC_0 _ (ok_X9_reg ho1))) rfl cs_X7_31 rfl rfl (Nat.le_of_ble_eq_true rfl) ⟨by decide, by decide⟩ ⟨Nat.zero_le _, Nat.zero_le _⟩ dX7_serve_115 ?_
              refine ag_ltV (fun V21 => ?_)
              refine ag_goto (tgt := 171) dX7_serve_118 (by decide) ?_
              exact hk4 V21
            · refine ag_if (fun h22 => ?_) (fun h22 => ?_)
              · refine ag_tab (off := 103) (tgt := 121) h22 dX7_serve_18 (by decide) (by decide) (by decide) (by decide) ?_
                refine ag_aload_n dX7_serve_121 rfl ?_
                refine ag_aload_n dX7_serve_122 rfl ?_
                refine ag_aload_n dX7_serve_123 rfl ?_
                refine ag_bnd (fun p23 hp23 => ?_)
                refine ag_isIe (c_X7_wake o0 o1 ho0 ho1 hp23) vwC_D cs_X7_47 rfl rfl (Nat.le_of_ble_eq_true rfl) ⟨by decide, by decide⟩ ⟨Nat.zero_le _, Nat.zero_le _⟩ dX7_serve_124 ?_
                refine ag_ivVe (c_X0_number (f_X9_reg o1 10) p23.1 (ok_X9_reg ho1) rfl) vwC_D (vwC_at (kpC_0 _ (ok_X9_reg ho1))) rfl cs_X7_31 rfl rfl (Nat.le_of_ble_eq_true rfl) ⟨by decide, by decide⟩ ⟨Nat.zero_le _, Nat.zero_le _⟩ dX7_serve_127 ?_
                refine ag_ltV (fun V24 => ?_)
                refine ag_goto (tgt := 171) dX7_serve_130 (by decide) ?_
                exact hk4 V24
              · refine ag_if (fun h25 => ?_) (fun h25 => ?_)
                · refine ag_tab (off := 115) (tgt := 133) h25 dX7_serve_18 (by decide) (by decide) (by decide) (by decide) ?_
                  refine ag_aload_n dX7_serve_133 rfl ?_
                  refine gC_X10_heap ho0 fl_X7_50 dX7_serve_134 ?_
                  refine ag_iconst (v := 1) dX7_serve_137 (by decide) ?_
                  refine pC_X4_asked (x := true) (by decide) fl_X7_54 dX7_serve_138 ?_
                  refine ag_ltV (fun V26 => ?_)
                  refine ag_aload_n dX7_serve_141 rfl ?_
                  refine ag_iconst (v := 0) dX7_serve_142 (by decide) ?_
                  refine ag_ivVe (c_X0_number (f_X9_reg o1 10) 0 (ok_X9_reg ho1) rfl) vwC_D (vwC_at (kpC_0 _ (ok_X9_reg ho1))) rfl cs_X7_31 rfl rfl (Nat.le_of_ble_eq_true rfl) ⟨by decide, by decide⟩ ⟨Nat.zero_le _, Nat.zero_le _⟩ dX7_serve_143 ?_
                  refine ag_ltV (fun V27 => ?_)
                  refine ag_goto (tgt := 171) dX7_serve_146 (by decide) ?_
                  exact hk4 V27
                · refine ag_if (fun h28 => ?_) (fun h28 => ?_)
                  · refine ag_tab (off := 131) (tgt := 149) h28 dX7_serve_18 (by decide) (by decide) (by decide) (by decide) ?_
                    refine ag_aload_n dX7_serve_149 rfl ?_
                    refine ag_aload_n dX7_serve_150 rfl ?_
                    refine gC_X9_number ho1 fl_X7_60 dX7_serve_151 ?_
                    refine ag_ivVe (c_X0_number (f_X9_reg o1 10) (V1 700 o1 0) (ok_X9_reg ho1) rfl) vwC_D (vwC_at (kpC_0 _ (ok_X9_reg ho1))) rfl cs_X7_31 rfl rfl (Nat.le_of_ble_eq_true rfl) ⟨by decide, by decide⟩ ⟨Nat.zero_le _, Nat.zero_le _⟩ dX7_serve_154 ?_
                    refine ag_ltV (fun V29 => ?_)
                    refine ag_goto (tgt := 171) dX7_serve_157 (by decide) ?_
                    exact hk4 V29
                  · refine ag_tabD (tgt := 160) dX7_serve_18 (by have z0 := lv_neT h8 (k := 0) (a := 0) (by decide); have z1 := lv_neT h10 (k := 1) (a := 1) (by decide); have z2 := lv_neT h13 (k := 2) (a := 2) (by decide); have z3 := lv_neT h16 (k := 3) (a := 3) (by decide); have z4 := lv_neT h19 (k := 4) (a := 4) (by decide); have z5 := lv_neT h22 (k := 5) (a := 5) (by decide); have z6 := lv_neT h25 (k := 6) (a := 6) (by decide); have z7 := lv_neT h28 (k := 7) (a := 7) (by decide); omega) (by decide) ?_
                    refine ag_aload_n dX7_serve_160 rfl ?_
                    refine ag_aload_n dX7_serve_161 rfl ?_
                    refine gC_X10_heap ho0 fl_X7_50 dX7_serve_162 ?_
                    refine ag_ivIp (c_X4_freeBytes 0 (by decide) rfl) vwC_D (vwC_at (kpC_3 _ (by decide))) rfl cs_X7_62 rfl rfl (Nat.le_of_ble_eq_true rfl) ⟨by decide, by decide⟩ ⟨Nat.zero_le _, Nat.zero_le _⟩ dX7_serve_165 ?_
                    refine ag_ltI (fun v30 => ?_)
                    refine ag_ivVe (c_X0_number (f_X9_reg o1 10) v30 (ok_X9_reg ho1) rfl) vwC_D (vwC_at (kpC_0 _ (ok_X9_reg ho1))) rfl cs_X7_31 rfl rfl (Nat.le_of_ble_eq_true rfl) ⟨by decide, by decide⟩ ⟨Nat.zero_le _, Nat.zero_le _⟩ dX7_serve_168 ?_
                    refine ag_ltV (fun V31 => ?_)
                    exact hk4 V31
set_option maxRecDepth 100000 in
set_option maxHeartbeats 4000000 in
theorem c_X2_enter {l : Launch} {D : va_G} {cy : Nat → ClassId} {bs kb : Nat} {V : HV} (o0 : Nat) (o1 : Nat) (x2 : Int32) (ho0 : o0 < 6) (ho1 : o1 < 583) {z : HV} (hz : f_X2_enter kb o0 o1 x2 V = z) : CM l (aG 737 bs) D (tyL cy) (vwC cy bs kb) yX2_enter cX2_enter 3 none 2 47 tvV [.ref (bs + posC 7 o0), .ref (bs + posC 0 o1), .int x2] V ((), z) := by
  refine cm_of vwC_D (by decide +kernel) (own := RX2) rfl (Nat.le_of_ble_eq_true rfl) (L := [some (.ref (bs + posC 7 o0)), some (.ref (bs + posC 0 o1)), some (.int x2)]) rfl hz (fun Γ => ?_)
  unfold f_X2_enter
  refine ag_aload_n dX2_enter_0 rfl ?_
  refine gC_X9_pcc ho0 fl_X2_25 dX2_enter_1 ?_
  refine ag_aload_n dX2_enter_4 rfl ?_
  refine ag_ivVe (c_X0_copy (17 * o0 + 16) o1 (by omega) ho1 rfl) vwC_D (vwC_at (kpC_0 _ (by omega))) rfl cs_X2_98 rfl rfl (Nat.le_of_ble_eq_true rfl) ⟨by decide, by decide⟩ ⟨Nat.zero_le _, Nat.zero_le _⟩ dX2_enter_5 ?_
  refine ag_ltV (fun V1 => ?_)
  refine ag_aload_n dX2_enter_8 rfl ?_
  refine gC_X9_pcc ho0 fl_X2_25 dX2_enter_9 ?_
  refine ag_iconst (v := 0) dX2_enter_12 (by decide) ?_
  refine pC_X0_type (by omega) fl_X2_136 dX2_enter_13 ?_
  refine ag_ltV (fun V2 => ?_)
  refine ag_aload_n dX2_enter_16 rfl ?_
  refine gC_X9_pcc ho0 fl_X2_25 dX2_enter_17 ?_
  refine ag_dup dX2_enter_20 rfl ?_
  refine gC_X0_cursor (by omega) fl_X2_31 dX2_enter_21 ?_
  refine ag_iload_n dX2_enter_24 rfl ?_
  refine ag_iadd dX2_enter_25 ?_
  refine pC_X0_cursor (by omega) fl_X2_31 dX2_enter_26 ?_
  refine ag_ltV (fun V3 => ?_)
  refine ag_aload_n dX2_enter_29 rfl ?_
  refine gC_X0_type ho1 fl_X2_136 dX2_enter_30 ?_
  refine ag_iconst (v := 2) dX2_enter_33 (by decide) ?_
  refine ag_icmp_ne (tgt := 45) dX2_enter_34 (by decide) (fun h4 => ?_) (fun h4 => ?_)
  · refine ag_aload_n dX2_enter_45 rfl ?_
    refine gC_X0_type ho1 fl_X2_136 dX2_enter_46 ?_
    refine ag_iconst (v := 3) dX2_enter_49 (by decide) ?_
    refine ag_icmp_ne (tgt := 58) dX2_enter_50 (by decide) (fun h5 => ?_) (fun h5 => ?_)
    · exact ag_vre dX2_enter_58
    · refine ag_aload_n dX2_enter_53 rfl ?_
      refine ag_iconst (v := 1) dX2_enter_54 (by decide) ?_
      refine pC_X9_interrupts (x := true) ho0 fl_X2_132 dX2_enter_55 ?_
      refine ag_ltV (fun V6 => ?_)
      exact ag_vre dX2_enter_58
  · refine ag_aload_n dX2_enter_37 rfl ?_
    refine ag_iconst (v := 0) dX2_enter_38 (by decide) ?_
    refine pC_X9_interrupts (x := false) ho0 fl_X2_132 dX2_enter_39 ?_
    refine ag_ltV (fun V7 => ?_)
    refine ag_goto (tgt := 58) dX2_enter_42 (by decide) ?_
    exact ag_vre dX2_enter_58
