set_option maxRecDepth 100000 in
set_option maxHeartbeats 4000000 in
theorem c_X5_arrange {l : Launch} {D : va_G} {cy : Nat → ClassId} {bs kb : Nat} {V : HV} (o0 : Nat) (o1 : Nat) (ho0 : o0 < 1) (ho1 : o1 < 1) {z : HV} (hz : f_X5_arrange kb o0 o1 V = some z) : CM l (aG 737 bs) D (tyL cy) (vwC cy bs kb) yX5_arrange cX5_arrange 4 none 1 22 tvV [.ref (bs + posC 4 o0), .ref (bs + posC 8 o1)] V ((), z) := by
  refine cm_of vwC_D (by decide +kernel) (own := RX5) rfl (Nat.le_of_ble_eq_true rfl) (L := [some (.ref (bs + posC 4 o0)), some (.ref (bs + posC 8 o1)), none, none]) rfl hz (fun Γ => ?_)
  unfold f_X5_arrange
  refine ag_iconst (v := 0) dX5_arrange_0 (by decide) ?_
  refine ag_istore_n (L' := [some (.ref (bs + posC 4 o0)), some (.ref (bs + posC 8 o1)), some (.int 0), none]) dX5_arrange_1 (by decide) rfl ?_
  refine ag_iconst (v := 0) dX5_arrange_2 (by decide) ?_
  refine ag_istore_n (L' := [some (.ref (bs + posC 4 o0)), some (.ref (bs + posC 8 o1)), some (.int 0), some (.int 0)]) dX5_arrange_3 (by decide) rfl ?_
  refine ag_jn2 (j := 35) (L1 := fun v3 V4 => [some (.ref (bs + posC 4 o0)), some (.ref (bs + posC 8 o1)), some (.int v3), none]) (st1 := fun v3 V4 => []) (ws1 := fun v3 V4 => vwC cy bs kb V4) (fun v3 V4 => ?_) (fun k1 hk2 => ?_)
  · refine ag_iconst (v := 0) dX5_arrange_35 (by decide) ?_
    refine ag_istore_n (L' := [some (.ref (bs + posC 4 o0)), some (.ref (bs + posC 8 o1)), some (.int v3), some (.int 0)]) dX5_arrange_36 (by decide) rfl ?_
    refine ag_jn2 (j := 97) (L1 := fun v7 V8 => [some (.ref (bs + posC 4 o0)), some (.ref (bs + posC 8 o1)), some (.int v7), none]) (st1 := fun v7 V8 => []) (ws1 := fun v7 V8 => vwC cy bs kb V8) (fun v7 V8 => ?_) (fun k5 hk6 => ?_)
    · refine ag_aload_n dX5_arrange_97 rfl ?_
      refine ag_iload_n dX5_arrange_98 rfl ?_
      refine pC_X5_heapAt ho0 fl_X5_140 dX5_arrange_99 ?_
      refine ag_ltV (fun V9 => ?_)
      refine ag_aload_n dX5_arrange_102 rfl ?_
      refine gC_X10_store ho1 fl_X5_143 dX5_arrange_103 ?_
      refine ag_aload_n dX5_arrange_106 rfl ?_
      refine gC_X5_heapAt ho0 fl_X5_140 dX5_arrange_107 ?_
      refine ag_bipush (v := 16) dX5_arrange_110 (by decide) ?_
      refine ag_ivZp (c_X8_has 0 (V9 409 o0 0) 16 (by decide) rfl) vwC_D (vwC_at (kpC_6 _ (by decide))) rfl cs_X5_147 rfl rfl (Nat.le_of_ble_eq_true rfl) ⟨by decide, by decide⟩ ⟨Nat.zero_le _, Nat.zero_le _⟩ dX5_arrange_112 ?_
      refine ag_ltZ (fun v10 => ?_)
      refine ag_bif_ne (tgt := 127) dX5_arrange_115 (by decide) (fun h11 => ?_) (fun h11 => ?_)
      · exact ag_vrep dX5_arrange_127
      · refine ag_aload_n dX5_arrange_118 rfl ?_
        refine ag_iconst (v := 5) dX5_arrange_119 (by decide) ?_
        refine ag_aload_n dX5_arrange_120 rfl ?_
        refine gC_X5_end ho0 fl_X5_30 dX5_arrange_121 ?_
        refine ag_ivVe (c_X5_fail o0 5 (V9 403 o0 0) ho0 rfl) vwC_D (vwC_at (kpC_4 _ ho0)) rfl cs_X5_43 rfl rfl (Nat.le_of_ble_eq_true rfl) ⟨by decide, by decide⟩ ⟨Nat.zero_le _, Nat.zero_le _⟩ dX5_arrange_124 ?_
        refine ag_ltV (fun V12 => ?_)
        exact ag_vrep dX5_arrange_127
    · refine ag_loop3 (F := f_X5_arrange_L37 o0 kb k5) (L1 := fun v13 v14 V15 => [some (.ref (bs + posC 4 o0)), some (.ref (bs + posC 8 o1)), some (.int v13), some (.int v14)]) (st1 := fun v13 v14 V15 => []) (ws1 := fun v13 v14 V15 => vwC cy bs kb V15) (fun n16 ih17 v13 v14 V15 => ?_) (fun _ _ _ => rfl) FU v3 0 V4
      rw [f_X5_arrange_L37]
      refine ag_iload_n dX5_arrange_37 rfl ?_
      refine ag_aload_n dX5_arrange_38 rfl ?_
      refine gC_X5_tasks ho0 fl_X5_64 dX5_arrange_39 ?_
      refine ag_icmp_ge (tgt := 97) dX5_arrange_42 (by decide) (fun h18 => ?_) (fun h18 => ?_)
      · refine ag_drop [3] (L' := [some (.ref (bs + posC 4 o0)), some (.ref (bs + posC 8 o1)), some (.int v13), none]) rfl ?_
        exact hk6 v13 V15
      · refine ag_iload_n dX5_arrange_45 rfl ?_
        refine ag_bipush (v := 6) dX5_arrange_46 (by decide) ?_
        refine ag_icmp_ge (tgt := 97) dX5_arrange_48 (by decide) (fun h19 => ?_) (fun h19 => ?_)
        · refine ag_drop [3] (L' := [some (.ref (bs + posC 4 o0)), some (.ref (bs + posC 8 o1)), some (.int v13), none]) rfl ?_
          exact hk6 v13 V15
        · refine ag_aload_n dX5_arrange_51 rfl ?_
          refine gC_X10_tasks ho1 fl_X5_129 dX5_arrange_52 ?_
          refine ag_iload_n dX5_arrange_55 rfl ?_
          refine ag_chk (fun h20 => ?_)
          have qh20 := inb_lt h20
          refine aC_22 (by decide) h20 dX5_arrange_56 ?_
          refine ag_iload_n dX5_arrange_57 rfl ?_
          refine pC_X9_stackBase (by omega) fl_X5_132 dX5_arrange_58 ?_
          refine ag_ltV (fun V21 => ?_)
          refine ag_iload_n dX5_arrange_61 rfl ?_
          refine ag_aload_n dX5_arrange_62 rfl ?_
          refine ag_aload_n dX5_arrange_63 rfl ?_
          refine gC_X5_tasksText ho0 fl_X5_74 dX5_arrange_64 ?_
          refine ag_iload_n dX5_arrange_67 rfl ?_
          refine ag_iconst (v := 5) dX5_arrange_68 (by decide) ?_
          refine ag_imul dX5_arrange_69 ?_
          refine ag_iadd dX5_arrange_70 ?_
          refine ag_iconst (v := 3) dX5_arrange_71 (by decide) ?_
          refine ag_iadd dX5_arrange_72 ?_
          refine ag_bnd (fun p22 hp22 => ?_)
          refine ag_ivIp (c_X5_byteAt o0 (((V21 408 o0 0) + (v14 * 5)) + 3) ho0 hp22) vwC_D (vwC_at (kpC_4 _ ho0)) rfl cs_X5_53 rfl rfl (Nat.le_of_ble_eq_true rfl) ⟨by decide, by decide⟩ ⟨Nat.zero_le _, Nat.zero_le _⟩ dX5_arrange_73 ?_
          refine ag_bipush (v := 16) dX5_arrange_76 (by decide) ?_
          refine ag_imul dX5_arrange_78 ?_
          refine ag_iadd dX5_arrange_79 ?_
          refine ag_ltI (fun v23 => ?_)
          refine ag_istore_n (L' := [some (.ref (bs + posC 4 o0)), some (.ref (bs + posC 8 o1)), some (.int v23), some (.int v14)]) dX5_arrange_80 (by decide) rfl ?_
          refine ag_aload_n dX5_arrange_81 rfl ?_
          refine gC_X10_tasks ho1 fl_X5_129 dX5_arrange_82 ?_
          refine ag_iload_n dX5_arrange_85 rfl ?_
          refine ag_chk (fun h24 => ?_)
          have qh24 := inb_lt h24
          refine aC_22 (by decide) h24 dX5_arrange_86 ?_
          refine ag_iload_n dX5_arrange_87 rfl ?_
          refine pC_X9_stackTop (by omega) fl_X5_137 dX5_arrange_88 ?_
          refine ag_ltV (fun V25 => ?_)
          refine ag_iincL (L' := fun v26 => [some (.ref (bs + posC 4 o0)), some (.ref (bs + posC 8 o1)), some (.int v23), some (.int v26)]) dX5_arrange_91 (by decide) rfl (by decide) (fun _ => rfl) (fun v26 => ?_)
          refine ag_goto (tgt := 37) dX5_arrange_94 (by decide) ?_
          exact ih17 v23 v26 V25
  · refine ag_loop3 (F := f_X5_arrange_L4 o0 kb k1) (L1 := fun v27 v28 V29 => [some (.ref (bs + posC 4 o0)), some (.ref (bs + posC 8 o1)), some (.int v27), some (.int v28)]) (st1 := fun v27 v28 V29 => []) (ws1 := fun v27 v28 V29 => vwC cy bs kb V29) (fun n30 ih31 v27 v28 V29 => ?_) (fun _ _ _ => rfl) FU 0 0 V
    rw [f_X5_arrange_L4]
    refine ag_iload_n dX5_arrange_4 rfl ?_
    refine ag_aload_n dX5_arrange_5 rfl ?_
    refine gC_X5_compartments ho0 fl_X5_61 dX5_arrange_6 ?_
    refine ag_icmp_ge (tgt := 35) dX5_arrange_9 (by decide) (fun h32 => ?_) (fun h32 => ?_)
    · refine ag_drop [3] (L' := [some (.ref (bs + posC 4 o0)), some (.ref (bs + posC 8 o1)), some (.int v27), none]) rfl ?_
      exact hk2 v27 V29
    · refine ag_iload_n dX5_arrange_12 rfl ?_
      refine ag_bipush (v := 8) dX5_arrange_13 (by decide) ?_
      refine ag_icmp_ge (tgt := 35) dX5_arrange_15 (by decide) (fun h33 => ?_) (fun h33 => ?_)
      · refine ag_drop [3] (L' := [some (.ref (bs + posC 4 o0)), some (.ref (bs + posC 8 o1)), some (.int v27), none]) rfl ?_
        exact hk2 v27 V29
      · refine ag_aload_n dX5_arrange_18 rfl ?_
        refine gC_X10_compartments ho1 fl_X5_67 dX5_arrange_19 ?_
        refine ag_iload_n dX5_arrange_22 rfl ?_
        refine ag_chk (fun h34 => ?_)
        have qh34 := inb_lt h34
        refine aC_21 (by decide) h34 dX5_arrange_23 ?_
        refine ag_iload_n dX5_arrange_24 rfl ?_
        refine ag_ivIe (c_X1_arrange ((v28).toNatClampNeg) v27 (by omega) rfl) vwC_D (vwC_at (kpC_1 _ (by omega))) rfl cs_X5_127 rfl rfl (Nat.le_of_ble_eq_true rfl) ⟨by decide, by decide⟩ ⟨Nat.zero_le _, Nat.zero_le _⟩ dX5_arrange_25 ?_
        refine ag_ltIV (fun p35 => ?_)
        refine ag_ltI (fun v36 => ?_)
        refine ag_istore_n (L' := [some (.ref (bs + posC 4 o0)), some (.ref (bs + posC 8 o1)), some (.int v36), some (.int v28)]) dX5_arrange_28 (by decide) rfl ?_
        refine ag_iincL (L' := fun v37 => [some (.ref (bs + posC 4 o0)), some (.ref (bs + posC 8 o1)), some (.int v36), some (.int v37)]) dX5_arrange_29 (by decide) rfl (by decide) (fun _ => rfl) (fun v37 => ?_)
        refine ag_goto (tgt := 4) dX5_arrange_32 (by decide) ?_
        exact ih31 v36 v37 p35.2
set_option maxRecDepth 100000 in
set_option maxHeartbeats 4000000 in
theorem c_J9_min_7cf53 {l : Launch} {D : va_G} {cy : Nat → ClassId} {bs kb : Nat} {V : HV} (x0 : Int32) (x1 : Int32) {z : Int32} (hz : f_J9_min_7cf53 x0 x1 = z) : CM l (aG 737 bs) D (tyL cy) (vwC cy bs kb) yJ9_min_7cf53 cJ9_min_7cf53 2 (some .int) 0 0 tvI [.int x0, .int x1] V (z, V) := by
  refine cm_of vwC_D (by decide +kernel) (own := RJ9) rfl (Nat.le_of_ble_eq_true rfl) (L := [some (.int x0), some (.int x1)]) rfl hz (fun Γ => ?_)
  unfold f_J9_min_7cf53
  refine ag_iload_n dJ9_min_7cf53_0 rfl ?_
  refine ag_iload_n dJ9_min_7cf53_1 rfl ?_
  refine ag_dv (j := 10) (L1 := fun _ => [some (.int x0), some (.int x1)]) (st1 := fun v1 => [.int v1]) (ws1 := fun _ => vwC cy bs kb V) (fun v1 => ?_) (fun k3 hk2 => ?_)
  · exact ag_irp dJ9_min_7cf53_10
  · refine ag_icmp_gt_v (tgt := 9) dJ9_min_7cf53_2 (by decide) (fun h4 => ?_) (fun h4 => ?_)
    · refine ag_iload_n dJ9_min_7cf53_9 rfl ?_
      exact hk2 x1
    · refine ag_iload_n dJ9_min_7cf53_5 rfl ?_
      refine ag_goto (tgt := 10) dJ9_min_7cf53_6 (by decide) ?_
      exact hk2 x0
set_option maxRecDepth 100000 in
set_option maxHeartbeats 4000000 in
theorem c_X10_open {l : Launch} {D : va_G} {cy : Nat → ClassId} {bs kb : Nat} {V : HV} (o0 : Nat) (x1 : Int32) (x2 : Int32) (ho0 : o0 < 1) {z : HV} (hz : f_X10_open kb o0 x1 x2 V = z) : CM l (aG 737 bs) D (tyL cy) (vwC cy bs kb) yX10_open cX10_open 3 none 1 21 tvV [.ref (bs + posC 8 o0), .int x1, .int x2] V ((), z) := by
  refine cm_of vwC_D (by decide +kernel) (own := RX10) rfl (Nat.le_of_ble_eq_true rfl) (L := [some (.ref (bs + posC 8 o0)), some (.int x1), some (.int x2)]) rfl hz (fun Γ => ?_)
  unfold f_X10_open
  refine ag_aload_n dX10_open_0 rfl ?_
  refine ag_iload_n dX10_open_1 rfl ?_
  refine ag_bipush (v := 8) dX10_open_2 (by decide) ?_
  refine ag_isIp (c_J9_min_7cf53 x1 8  rfl) vwC_D cs_X10_96 rfl rfl (Nat.le_of_ble_eq_true rfl) ⟨by decide, by decide⟩ ⟨Nat.zero_le _, Nat.zero_le _⟩ dX10_open_4 ?_
  refine ag_ltI (fun v1 => ?_)
  refine pC_X10_compartmentCount ho0 fl_X10_68 dX10_open_7 ?_
  refine ag_ltV (fun V2 => ?_)
  refine ag_aload_n dX10_open_10 rfl ?_
  refine ag_iload_n dX10_open_11 rfl ?_
  refine ag_bipush (v := 6) dX10_open_12 (by decide) ?_
  refine ag_isIp (c_J9_min_7cf53 x2 6  rfl) vwC_D cs_X10_96 rfl rfl (Nat.le_of_ble_eq_true rfl) ⟨by decide, by decide⟩ ⟨Nat.zero_le _, Nat.zero_le _⟩ dX10_open_14 ?_
  refine ag_ltI (fun v3 => ?_)
  refine pC_X10_taskCount ho0 fl_X10_71 dX10_open_17 ?_
  refine ag_ltV (fun V4 => ?_)
  refine ag_aload_n dX10_open_20 rfl ?_
  refine ag_iconst (v := 1) dX10_open_21 (by decide) ?_
  refine pC_X10_booted (x := true) ho0 fl_X10_74 dX10_open_22 ?_
  refine ag_ltV (fun V5 => ?_)
  exact ag_vre dX10_open_25
set_option maxRecDepth 100000 in
set_option maxHeartbeats 4000000 in
theorem c_X5_makeImport {l : Launch} {D : va_G} {cy : Nat → ClassId} {bs kb : Nat} {V : HV} (o0 : Nat) (o1 : Nat) (x2 : Int32) (ho0 : o0 < 1) (ho1 : o1 < 1) {z : HV} (hz : f_X5_makeImport kb o0 o1 x2 V = some z) : CM l (aG 737 bs) D (tyL cy) (vwC cy bs kb) yX5_makeImport cX5_makeImport 8 none 2 48 tvV [.ref (bs + posC 4 o0), .ref (bs + posC 8 o1), .int x2] V ((), z) := by
  refine cm_of vwC_D (by decide +kernel) (own := RX5) rfl (Nat.le_of_ble_eq_true rfl) (L := [some (.ref (bs + posC 4 o0)), some (.ref (bs + posC 8 o1)), some (.int x2), none, none, none, none, none]) rfl hz (fun Γ => ?_)
  unfold f_X5_makeImport
  refine ag_aload_n dX5_makeImport_0 rfl ?_
  refine ag_iload_n dX5_makeImport_1 rfl ?_
  refine ag_iconst (v := 1) dX5_makeImport_2 (by decide) ?_
  refine ag_iadd dX5_makeImport_3 ?_
  refine ag_bnd (fun p1 hp1 => ?_)
  refine ag_ivIp (c_X5_byteAt o0 (x2 + 1) ho0 hp1) vwC_D (vwC_at (kpC_4 _ ho0)) rfl cs_X5_53 rfl rfl (Nat.le_of_ble_eq_true rfl) ⟨by decide, by decide⟩ ⟨Nat.zero_le _, Nat.zero_le _⟩ dX5_makeImport_4 ?_
  refine ag_istore_n (L' := [some (.ref (bs + posC 4 o0)), some (.ref (bs + posC 8 o1)), some (.int x2), some (.int p1), none, none, none, none]) dX5_makeImport_7 (by decide) rfl ?_
  refine ag_aload_n dX5_makeImport_8 rfl ?_
  refine ag_iload_n dX5_makeImport_9 rfl ?_
  refine ag_iconst (v := 2) dX5_makeImport_10 (by decide) ?_
  refine ag_iadd dX5_makeImport_11 ?_
  refine ag_bnd (fun p2 hp2 => ?_)
  refine ag_ivIp (c_X5_byteAt o0 (x2 + 2) ho0 hp2) vwC_D (vwC_at (kpC_4 _ ho0)) rfl cs_X5_53 rfl rfl (Nat.le_of_ble_eq_true rfl) ⟨by decide, by decide⟩ ⟨Nat.zero_le _, Nat.zero_le _⟩ dX5_makeImport_12 ?_
  refine ag_istore (L' := [some (.ref (bs + posC 4 o0)), some (.ref (bs + posC 8 o1)), some (.int x2), some (.int p1), some (.int p2), none, none, none]) dX5_makeImport_15 (by decide) rfl ?_
  refine ag_aload_n dX5_makeImport_17 rfl ?_
  refine gC_X10_scratch ho1 fl_X5_177 dX5_makeImport_18 ?_
  refine ag_astore (L' := [some (.ref (bs + posC 4 o0)), some (.ref (bs + posC 8 o1)), some (.int x2), some (.int p1), some (.int p2), some (.ref (bs + posC 0 582)), none, none]) dX5_makeImport_21 (by decide) rfl ?_
  refine ag_aload dX5_makeImport_23 rfl ?_
  refine ag_ivVe (c_X0_clear 582 (by decide) rfl) vwC_D (vwC_at (kpC_0 _ (by decide))) rfl cs_X5_195 rfl rfl (Nat.le_of_ble_eq_true rfl) ⟨by decide, by decide⟩ ⟨Nat.zero_le _, Nat.zero_le _⟩ dX5_makeImport_25 ?_
  refine ag_ltV (fun V3 => ?_)
  refine ag_aload_n dX5_makeImport_28 rfl ?_
  refine ag_iload_n dX5_makeImport_29 rfl ?_
  refine ag_bnd (fun p4 hp4 => ?_)
  refine ag_ivIp (c_X5_byteAt o0 x2 ho0 hp4) vwC_D (vwC_at (kpC_4 _ ho0)) rfl cs_X5_53 rfl rfl (Nat.le_of_ble_eq_true rfl) ⟨by decide, by decide⟩ ⟨Nat.zero_le _, Nat.zero_le _⟩ dX5_makeImport_30 ?_
  refine ag_if (fun h5 => ?_) (fun h5 => ?_)
  · refine ag_tab (off := 31) (tgt := 64) h5 dX5_makeImport_33 (by decide) (by decide) (by decide) (by decide) ?_
    refine ag_aload dX5_makeImport_64 rfl ?_
    refine ag_bipush (v := 16) dX5_makeImport_66 (by decide) ?_
    refine ag_iload_n dX5_makeImport_68 rfl ?_
    refine ag_imul dX5_makeImport_69 ?_
    refine ag_iload dX5_makeImport_70 rfl ?_
    refine ag_iadd dX5_makeImport_72 ?_
    refine ag_iconst (v := 0) dX5_makeImport_73 (by decide) ?_
    refine ag_iconst (v := 0) dX5_makeImport_74 (by decide) ?_
    refine ag_bipush (v := 64) dX5_makeImport_75 (by decide) ?_
    refine ag_iconst (v := 4) dX5_makeImport_77 (by decide) ?_
    refine ag_iconst (v := 1) dX5_makeImport_78 (by decide) ?_
    refine ag_ivVe (c_X0_set 582 ((16 * p1) + p2) 0 0 64 4 true (by decide) rfl) vwC_D (vwC_at (kpC_0 _ (by decide))) rfl cs_X5_198 rfl rfl (Nat.le_of_ble_eq_true rfl) ⟨by decide, by decide⟩ ⟨Nat.zero_le _, Nat.zero_le _⟩ dX5_makeImport_79 ?_
    refine ag_ltV (fun V6 => ?_)
    refine ag_goto (tgt := 172) dX5_makeImport_82 (by decide) ?_
    exact ag_vrep dX5_makeImport_172
  · refine ag_if (fun h7 => ?_) (fun h7 => ?_)
    · refine ag_tab (off := 52) (tgt := 85) h7 dX5_makeImport_33 (by decide) (by decide) (by decide) (by decide) ?_
      refine ag_aload dX5_makeImport_85 rfl ?_
      refine ag_iload_n dX5_makeImport_87 rfl ?_
      refine ag_iconst (v := 0) dX5_makeImport_88 (by decide) ?_
      refine ag_iconst (v := 0) dX5_makeImport_89 (by decide) ?_
      refine ag_bipush (v := 64) dX5_makeImport_90 (by decide) ?_
      refine ag_bipush (v := 6) dX5_makeImport_92 (by decide) ?_
      refine ag_iconst (v := 1) dX5_makeImport_94 (by decide) ?_
      refine ag_ivVe (c_X0_set 582 p1 0 0 64 6 true (by decide) rfl) vwC_D (vwC_at (kpC_0 _ (by decide))) rfl cs_X5_198 rfl rfl (Nat.le_of_ble_eq_true rfl) ⟨by decide, by decide⟩ ⟨Nat.zero_le _, Nat.zero_le _⟩ dX5_makeImport_95 ?_
      refine ag_ltV (fun V8 => ?_)
      refine ag_goto (tgt := 172) dX5_makeImport_98 (by decide) ?_
      exact ag_vrep dX5_makeImport_172
    · refine ag_if (fun h9 => ?_) (fun h9 => ?_)
      · refine ag_tab (off := 68) (tgt := 101) h9 dX5_makeImport_33 (by decide) (by decide) (by decide) (by decide) ?_
        refine ag_aload dX5_makeImport_101 rfl ?_
        refine ag_ldc kc_X5_202 dX5_makeImport_103 ?_
        refine ag_ldc kc_X5_202 dX5_makeImport_105 ?_
        refine ag_ldc kc_X5_203 dX5_makeImport_107 ?_
        refine ag_iload_n dX5_makeImport_109 rfl ?_
        refine ag_bipush (v := 64) dX5_makeImport_110 (by decide) ?_
        refine ag_ior dX5_makeImport_112 ?_
        refine ag_iconst (v := 0) dX5_makeImport_113 (by decide) ?_
        refine ag_iconst (v := 1) dX5_makeImport_114 (by decide) ?_
        refine ag_ivVe (c_X0_set 582 268435456 268435456 268435472 (p1 ||| 64) 0 true (by decide) rfl) vwC_D (vwC_at (kpC_0 _ (by decide))) rfl cs_X5_198 rfl rfl (Nat.le_of_ble_eq_true rfl) ⟨by decide, by decide⟩ ⟨Nat.zero_le _, Nat.zero_le _⟩ dX5_makeImport_115 ?_
        refine ag_ltV (fun V10 => ?_)
        refine ag_goto (tgt := 172) dX5_makeImport_118 (by decide) ?_
        exact ag_vrep dX5_makeImport_172
      · refine ag_if (fun h11 => ?_) (fun h11 => ?_)
        · refine ag_tab (off := 88) (tgt := 121) h11 dX5_makeImport_33 (by decide) (by decide) (by decide) (by decide) ?_
          refine ag_bipush (v := 8) dX5_makeImport_121 (by decide) ?_
          refine ag_iload_n dX5_makeImport_123 rfl ?_
          refine ag_iadd dX5_makeImport_124 ?_
          refine ag_ltI (fun v12 => ?_)
          refine ag_istore (L' := [some (.ref (bs + posC 4 o0)), some (.ref (bs + posC 8 o1)), some (.int x2), some (.int p1), some (.int p2), some (.ref (bs + posC 0 582)), some (.int v12), none]) dX5_makeImport_125 (by decide) rfl ?_
          refine ag_aload dX5_makeImport_127 rfl ?_
          refine ag_iload dX5_makeImport_129 rfl ?_
          refine ag_iload dX5_makeImport_131 rfl ?_
          refine ag_iload dX5_makeImport_133 rfl ?_
          refine ag_iload dX5_makeImport_135 rfl ?_
          refine ag_iadd dX5_makeImport_137 ?_
          refine ag_bipush (v := 96) dX5_makeImport_138 (by decide) ?_
          refine ag_iconst (v := 0) dX5_makeImport_140 (by decide) ?_
          refine ag_iconst (v := 1) dX5_makeImport_141 (by decide) ?_
          refine ag_ivVe (c_X0_set 582 v12 v12 (v12 + p2) 96 0 true (by decide) rfl) vwC_D (vwC_at (kpC_0 _ (by decide))) rfl cs_X5_198 rfl rfl (Nat.le_of_ble_eq_true rfl) ⟨by decide, by decide⟩ ⟨Nat.zero_le _, Nat.zero_le _⟩ dX5_makeImport_142 ?_
          refine ag_ltV (fun V13 => ?_)
          refine ag_goto (tgt := 172) dX5_makeImport_145 (by decide) ?_
          exact ag_vrep dX5_makeImport_172
        · refine ag_tabD (tgt := 148) dX5_makeImport_33 (by have z0 := lv_neT h5 (k := 0) (a := 0) (by decide); have z1 := lv_neT h7 (k := 1) (a := 1) (by decide); have z2 := lv_neT h9 (k := 2) (a := 2) (by decide); have z3 := lv_neT h11 (k := 3) (a := 3) (by decide); omega) (by decide) ?_
          refine ag_aload_n dX5_makeImport_148 rfl ?_
          refine ag_iload_n dX5_makeImport_149 rfl ?_
          refine ag_bnd (fun p14 hp14 => ?_)
          refine ag_ivOp (c_X10_compartmentAt o1 p1 ho1 hp14) vwC_D (vwC_at (kpC_8 _ ho1)) rfl cs_X5_204 rfl rfl (Nat.le_of_ble_eq_true rfl) ⟨by decide, by decide⟩ ⟨Nat.zero_le _, Nat.zero_le _⟩ dX5_makeImport_150 ?_
          refine ag_ostore (L' := [some (.ref (bs + posC 4 o0)), some (.ref (bs + posC 8 o1)), some (.int x2), some (.int p1), some (.int p2), some (.ref (bs + posC 0 582)), none, some (va_rf (p14.map (fun x => bs + posC 1 x)))]) dX5_makeImport_153 (by decide) rfl ?_
          refine ag_oload dX5_makeImport_155 rfl ?_
          refine ag_ifnull (tgt := 172) dX5_makeImport_157 (by decide) (fun eh16 => ?_) (fun a15 eh16 => ?_)
          · subst eh16
            refine ag_Lc (L' := [some (.ref (bs + posC 4 o0)), some (.ref (bs + posC 8 o1)), some (.int x2), some (.int p1), some (.int p2), some (.ref (bs + posC 0 582)), none, some (.null)]) rfl ?_
            exact ag_vrep dX5_makeImport_172
          · subst eh16
            refine ag_chk (fun h16 => ?_)
            refine ag_Lc (L' := [some (.ref (bs + posC 4 o0)), some (.ref (bs + posC 8 o1)), some (.int x2), some (.int p1), some (.int p2), some (.ref (bs + posC 0 582)), none, some (.ref (bs + posC 1 a15))]) rfl ?_
            refine ag_aload dX5_makeImport_160 rfl ?_
            refine ag_aload dX5_makeImport_162 rfl ?_
            refine ag_iload dX5_makeImport_164 rfl ?_
            refine ag_bipush (v := 64) dX5_makeImport_166 (by decide) ?_
            refine ag_ior dX5_makeImport_168 ?_
            refine ag_ivVe (c_X1_globalsTo a15 582 (p2 ||| 64) h16 (by decide) rfl) vwC_D (vwC_at (kpC_1 _ h16)) rfl cs_X5_208 rfl rfl (Nat.le_of_ble_eq_true rfl) ⟨by decide, by decide⟩ ⟨Nat.zero_le _, Nat.zero_le _⟩ dX5_makeImport_169 ?_
            refine ag_ltV (fun V17 => ?_)
            exact ag_vrep dX5_makeImport_172
set_option maxRecDepth 100000 in
set_option maxHeartbeats 4000000 in
theorem c_X9_begin {l : Launch} {D : va_G} {cy : Nat → ClassId} {bs kb : Nat} {V : HV} (o0 : Nat) (x1 : Int32) (x2 : Int32) (ho0 : o0 < 6) {z : HV} (hz : f_X9_begin kb o0 x1 x2 V = some z) : CM l (aG 737 bs) D (tyL cy) (vwC cy bs kb) yX9_begin cX9_begin 3 none 3 70 tvV [.ref (bs + posC 7 o0), .int x1, .int x2] V ((), z) := by
  refine cm_of vwC_D (by decide +kernel) (own := RX9) rfl (Nat.le_of_ble_eq_true rfl) (L := [some (.ref (bs + posC 7 o0)), some (.int x1), some (.int x2)]) rfl hz (fun Γ => ?_)
  unfold f_X9_begin
  refine ag_aload_n dX9_begin_0 rfl ?_
  refine ag_iload_n dX9_begin_1 rfl ?_
  refine pC_X9_priority ho0 fl_X9_33 dX9_begin_2 ?_
  refine ag_ltV (fun V1 => ?_)
  refine ag_aload_n dX9_begin_5 rfl ?_
  refine ag_iload_n dX9_begin_6 rfl ?_
  refine ag_bipush (v := 16) dX9_begin_7 (by decide) ?_
  refine ag_isIp (c_J9_min_7cf53 x2 16  rfl) vwC_D cs_X9_36 rfl rfl (Nat.le_of_ble_eq_true rfl) ⟨by decide, by decide⟩ ⟨Nat.zero_le _, Nat.zero_le _⟩ dX9_begin_9 ?_
  refine ag_ltI (fun v2 => ?_)
  refine pC_X9_frameLimit ho0 fl_X9_42 dX9_begin_12 ?_
  refine ag_ltV (fun V3 => ?_)
  refine ag_aload_n dX9_begin_15 rfl ?_
  refine ag_bnd (fun p4 hp4 => ?_)
  refine ag_ivVe (c_X9_forgetAll o0 ho0 hp4) vwC_D (vwC_at (kpC_7 _ ho0)) rfl cs_X9_45 rfl rfl (Nat.le_of_ble_eq_true rfl) ⟨by decide, by decide⟩ ⟨Nat.zero_le _, Nat.zero_le _⟩ dX9_begin_16 ?_
  refine ag_aload_n dX9_begin_19 rfl ?_
  refine ag_iconst (v := 1) dX9_begin_20 (by decide) ?_
  refine pC_X9_interrupts (x := true) ho0 fl_X9_48 dX9_begin_21 ?_
  refine ag_ltV (fun V5 => ?_)
  refine ag_aload_n dX9_begin_24 rfl ?_
  refine ag_iconst (v := 0) dX9_begin_25 (by decide) ?_
  refine pC_X9_state ho0 fl_X9_52 dX9_begin_26 ?_
  refine ag_ltV (fun V6 => ?_)
  refine ag_aload_n dX9_begin_29 rfl ?_
  refine ag_iconst (v := (-1)) dX9_begin_30 (by decide) ?_
  refine pC_X9_readyAt ho0 fl_X9_55 dX9_begin_31 ?_
  refine ag_ltV (fun V7 => ?_)
  refine ag_aload_n dX9_begin_34 rfl ?_
  refine ag_iconst (v := (-1)) dX9_begin_35 (by decide) ?_
  refine pC_X9_waitAddress ho0 fl_X9_58 dX9_begin_36 ?_
  refine ag_ltV (fun V8 => ?_)
  refine ag_aload_n dX9_begin_39 rfl ?_
  refine ag_iconst (v := 0) dX9_begin_40 (by decide) ?_
  refine pC_X9_waitSince ho0 fl_X9_61 dX9_begin_41 ?_
  refine ag_ltV (fun V9 => ?_)
  refine ag_aload_n dX9_begin_44 rfl ?_
  refine ag_iconst (v := 0) dX9_begin_45 (by decide) ?_
  refine pC_X9_wanted ho0 fl_X9_64 dX9_begin_46 ?_
  refine ag_ltV (fun V10 => ?_)
  refine ag_aload_n dX9_begin_49 rfl ?_
  refine ag_iconst (v := 0) dX9_begin_50 (by decide) ?_
  refine pC_X9_latestFault ho0 fl_X9_67 dX9_begin_51 ?_
  refine ag_ltV (fun V11 => ?_)
  refine ag_aload_n dX9_begin_54 rfl ?_
  refine ag_iconst (v := 0) dX9_begin_55 (by decide) ?_
  refine pC_X9_done ho0 fl_X9_70 dX9_begin_56 ?_
  refine ag_ltV (fun V12 => ?_)
  refine ag_aload_n dX9_begin_59 rfl ?_
  refine ag_iconst (v := (-1)) dX9_begin_60 (by decide) ?_
  refine pC_X9_lastCurrent ho0 fl_X9_73 dX9_begin_61 ?_
  refine ag_ltV (fun V13 => ?_)
  exact ag_vrep dX9_begin_64
set_option maxRecDepth 100000 in
set_option maxHeartbeats 4000000 in
theorem c_X5_makeTask {l : Launch} {D : va_G} {cy : Nat → ClassId} {bs kb : Nat} {V : HV} (o0 : Nat) (o1 : Nat) (o2 : Nat) (x3 : Int32) (ho0 : o0 < 1) (ho1 : o1 < 1) (ho2 : o2 < 6) {z : HV} (hz : f_X5_makeTask kb o0 o1 o2 x3 V = some z) : CM l (aG 737 bs) D (tyL cy) (vwC cy bs kb) yX5_makeTask cX5_makeTask 6 none 4 93 tvV [.ref (bs + posC 4 o0), .ref (bs + posC 8 o1), .ref (bs + posC 7 o2), .int x3] V ((), z) := by
  refine cm_of vwC_D (by decide +kernel) (own := RX5) rfl (Nat.le_of_ble_eq_true rfl) (L := [some (.ref (bs + posC 4 o0)), some (.ref (bs + posC 8 o1)), some (.ref (bs + posC 7 o2)), some (.int x3), none, none]) rfl hz (fun Γ => ?_)
  unfold f_X5_makeTask
  refine ag_aload_n dX5_makeTask_0 rfl ?_
  refine ag_iload_n dX5_makeTask_1 rfl ?_
  refine ag_bnd (fun p1 hp1 => ?_)
  refine ag_ivIp (c_X5_byteAt o0 x3 ho0 hp1) vwC_D (vwC_at (kpC_4 _ ho0)) rfl cs_X5_53 rfl rfl (Nat.le_of_ble_eq_true rfl) ⟨by decide, by decide⟩ ⟨Nat.zero_le _, Nat.zero_le _⟩ dX5_makeTask_2 ?_
  refine ag_istore (L' := [some (.ref (bs + posC 4 o0)), some (.ref (bs + posC 8 o1)), some (.ref (bs + posC 7 o2)), some (.int x3), some (.int p1), none]) dX5_makeTask_5 (by decide) rfl ?_
  refine ag_aload_n dX5_makeTask_7 rfl ?_
  refine ag_iload dX5_makeTask_8 rfl ?_
  refine ag_bnd (fun p2 hp2 => ?_)
  refine ag_ivOp (c_X10_compartmentAt o1 p1 ho1 hp2) vwC_D (vwC_at (kpC_8 _ ho1)) rfl cs_X5_204 rfl rfl (Nat.le_of_ble_eq_true rfl) ⟨by decide, by decide⟩ ⟨Nat.zero_le _, Nat.zero_le _⟩ dX5_makeTask_10 ?_
  refine ag_ostore (L' := [some (.ref (bs + posC 4 o0)), some (.ref (bs + posC 8 o1)), some (.ref (bs + posC 7 o2)), some (.int x3), some (.int p1), some (va_rf (p2.map (fun x => bs + posC 1 x)))]) dX5_makeTask_13 (by decide) rfl ?_
  refine ag_oload dX5_makeTask_15 rfl ?_
  refine ag_ifnull (tgt := 57) dX5_makeTask_17 (by decide) (fun eh4 => ?_) (fun a3 eh4 => ?_)
  · subst eh4
    refine ag_Lc (L' := [some (.ref (bs + posC 4 o0)), some (.ref (bs + posC 8 o1)), some (.ref (bs + posC 7 o2)), some (.int x3), some (.int p1), some (.null)]) rfl ?_
    exact ag_vrep dX5_makeTask_57
  · subst eh4
    refine ag_chk (fun h4 => ?_)
    refine ag_Lc (L' := [some (.ref (bs + posC 4 o0)), some (.ref (bs + posC 8 o1)), some (.ref (bs + posC 7 o2)), some (.int x3), some (.int p1), some (.ref (bs + posC 1 a3))]) rfl ?_
    refine ag_aload_n dX5_makeTask_20 rfl ?_
    refine ag_aload_n dX5_makeTask_21 rfl ?_
    refine ag_iload_n dX5_makeTask_22 rfl ?_
    refine ag_iconst (v := 2) dX5_makeTask_23 (by decide) ?_
    refine ag_iadd dX5_makeTask_24 ?_
    refine ag_bnd (fun p5 hp5 => ?_)
    refine ag_ivIp (c_X5_byteAt o0 (x3 + 2) ho0 hp5) vwC_D (vwC_at (kpC_4 _ ho0)) rfl cs_X5_53 rfl rfl (Nat.le_of_ble_eq_true rfl) ⟨by decide, by decide⟩ ⟨Nat.zero_le _, Nat.zero_le _⟩ dX5_makeTask_25 ?_
    refine ag_aload_n dX5_makeTask_28 rfl ?_
    refine ag_iload_n dX5_makeTask_29 rfl ?_
    refine ag_iconst (v := 4) dX5_makeTask_30 (by decide) ?_
    refine ag_iadd dX5_makeTask_31 ?_
    refine ag_bnd (fun p6 hp6 => ?_)
    refine ag_ivIp (c_X5_byteAt o0 (x3 + 4) ho0 hp6) vwC_D (vwC_at (kpC_4 _ ho0)) rfl cs_X5_53 rfl rfl (Nat.le_of_ble_eq_true rfl) ⟨by decide, by decide⟩ ⟨Nat.zero_le _, Nat.zero_le _⟩ dX5_makeTask_32 ?_
    refine ag_bnd (fun p7 hp7 => ?_)
    refine ag_ivVe (c_X9_begin o2 p5 p6 ho2 hp7) vwC_D (vwC_at (kpC_7 _ ho2)) rfl cs_X5_212 rfl rfl (Nat.le_of_ble_eq_true rfl) ⟨by decide, by decide⟩ ⟨Nat.zero_le _, Nat.zero_le _⟩ dX5_makeTask_35 ?_
    refine ag_aload_n dX5_makeTask_38 rfl ?_
    refine ag_aload dX5_makeTask_39 rfl ?_
    refine ag_iload dX5_makeTask_41 rfl ?_
    refine ag_aload_n dX5_makeTask_43 rfl ?_
    refine ag_iload_n dX5_makeTask_44 rfl ?_
    refine ag_iconst (v := 1) dX5_makeTask_45 (by decide) ?_
    refine ag_iadd dX5_makeTask_46 ?_
    refine ag_bnd (fun p8 hp8 => ?_)
    refine ag_ivIp (c_X5_byteAt o0 (x3 + 1) ho0 hp8) vwC_D (vwC_at (kpC_4 _ ho0)) rfl cs_X5_53 rfl rfl (Nat.le_of_ble_eq_true rfl) ⟨by decide, by decide⟩ ⟨Nat.zero_le _, Nat.zero_le _⟩ dX5_makeTask_47 ?_
    refine ag_aload_n dX5_makeTask_50 rfl ?_
    refine gC_X9_stackTop ho2 fl_X5_137 dX5_makeTask_51 ?_
    refine ag_bnd (fun p9 hp9 => ?_)
    refine ag_ivVe (c_X9_enter o2 a3 p1 p8 (p7 708 o2 0) ho2 h4 hp9) vwC_D (vwC_at (kpC_7 _ ho2)) rfl cs_X5_215 rfl rfl (Nat.le_of_ble_eq_true rfl) ⟨by decide, by decide⟩ ⟨Nat.zero_le _, Nat.zero_le _⟩ dX5_makeTask_54 ?_
    exact ag_vrep dX5_makeTask_57
set_option maxRecDepth 100000 in
set_option maxHeartbeats 4000000 in
theorem c_X5_build {l : Launch} {D : va_G} {cy : Nat → ClassId} {bs kb : Nat} {V : HV} (o0 : Nat) (o1 : Nat) (ho0 : o0 < 1) (ho1 : o1 < 1) {z : HV} (hz : f_X5_build kb o0 o1 V = some z) : CM l (aG 737 bs) D (tyL cy) (vwC cy bs kb) yX5_build cX5_build 5 none 5 118 tvV [.ref (bs + posC 4 o0), .ref (bs + posC 8 o1)] V ((), z) := by
  refine cm_of vwC_D (by decide +kernel) (own := RX5) rfl (Nat.le_of_ble_eq_true rfl) (L := [some (.ref (bs + posC 4 o0)), some (.ref (bs + posC 8 o1)), none, none, none]) rfl hz (fun Γ => ?_)
  unfold f_X5_build
  refine ag_aload_n dX5_build_0 rfl ?_
  refine ag_aload_n dX5_build_1 rfl ?_
  refine gC_X5_compartments ho0 fl_X5_61 dX5_build_2 ?_
  refine ag_aload_n dX5_build_5 rfl ?_
  refine gC_X5_tasks ho0 fl_X5_64 dX5_build_6 ?_
  refine ag_ivVe (c_X10_open o1 (V 406 o0 0) (V 407 o0 0) ho1 rfl) vwC_D (vwC_at (kpC_8 _ ho1)) rfl cs_X5_153 rfl rfl (Nat.le_of_ble_eq_true rfl) ⟨by decide, by decide⟩ ⟨Nat.zero_le _, Nat.zero_le _⟩ dX5_build_9 ?_
  refine ag_ltV (fun V1 => ?_)
  refine ag_aload_n dX5_build_12 rfl ?_
  refine gC_X10_heap ho1 fl_X5_156 dX5_build_13 ?_
  refine ag_aload_n dX5_build_16 rfl ?_
  refine gC_X5_heapAt ho0 fl_X5_140 dX5_build_17 ?_
  refine ag_bipush (v := 16) dX5_build_20 (by decide) ?_
  refine ag_idiv dX5_build_22 (by decide) ?_
  refine ag_bnd (fun p2 hp2 => ?_)
  refine ag_ivVe (c_X4_reset 0 ((V1 409 o0 0) / 16) (by decide) hp2) vwC_D (vwC_at (kpC_3 _ (by decide))) rfl cs_X5_160 rfl rfl (Nat.le_of_ble_eq_true rfl) ⟨by decide, by decide⟩ ⟨Nat.zero_le _, Nat.zero_le _⟩ dX5_build_23 ?_
  refine ag_iconst (v := 0) dX5_build_26 (by decide) ?_
  refine ag_istore_n (L' := [some (.ref (bs + posC 4 o0)), some (.ref (bs + posC 8 o1)), some (.int 0), none, none]) dX5_build_27 (by decide) rfl ?_
  refine ag_jn1 (j := 161) (L1 := fun V5 => [some (.ref (bs + posC 4 o0)), some (.ref (bs + posC 8 o1)), none, none, none]) (st1 := fun V5 => []) (ws1 := fun V5 => vwC cy bs kb V5) (fun V5 => ?_) (fun k3 hk4 => ?_)
  · refine ag_iconst (v := 0) dX5_build_161 (by decide) ?_
    refine ag_istore_n (L' := [some (.ref (bs + posC 4 o0)), some (.ref (bs + posC 8 o1)), some (.int 0), none, none]) dX5_build_162 (by decide) rfl ?_
    refine ag_jn1 (j := 202) (L1 := fun V8 => [some (.ref (bs + posC 4 o0)), some (.ref (bs + posC 8 o1)), none, none, none]) (st1 := fun V8 => []) (ws1 := fun V8 => vwC cy bs kb V8) (fun V8 => ?_) (fun k6 hk7 => ?_)
    · exact ag_vrep dX5_build_202
    · refine ag_loop2 (F := f_X5_build_L163 o0 o1 kb k6) (L1 := fun v9 V10 => [some (.ref (bs + posC 4 o0)), some (.ref (bs + posC 8 o1)), some (.int v9), none, none]) (st1 := fun v9 V10 => []) (ws1 := fun v9 V10 => vwC cy bs kb V10) (fun n11 ih12 v9 V10 => ?_) (fun _ _ => rfl) FU 0 V5
      rw [f_X5_build_L163]
      refine ag_iload_n dX5_build_163 rfl ?_
      refine ag_aload_n dX5_build_164 rfl ?_
      refine gC_X5_tasks ho0 fl_X5_64 dX5_build_165 ?_
      refine ag_icmp_ge (tgt := 202) dX5_build_168 (by decide) (fun h13 => ?_) (fun h13 => ?_)
      · refine ag_drop [2] (L' := [some (.ref (bs + posC 4 o0)), some (.ref (bs + posC 8 o1)), none, none, none]) rfl ?_
        exact hk7 V10
      · refine ag_iload_n dX5_build_171 rfl ?_
        refine ag_bipush (v := 6) dX5_build_172 (by decide) ?_
        refine ag_icmp_ge (tgt := 202) dX5_build_174 (by decide) (fun h14 => ?_) (fun h14 => ?_)
        · refine ag_drop [2] (L' := [some (.ref (bs + posC 4 o0)), some (.ref (bs + posC 8 o1)), none, none, none]) rfl ?_
          exact hk7 V10
        · refine ag_aload_n dX5_build_177 rfl ?_
          refine ag_aload_n dX5_build_178 rfl ?_
          refine ag_aload_n dX5_build_179 rfl ?_
          refine gC_X10_tasks ho1 fl_X5_129 dX5_build_180 ?_
          refine ag_iload_n dX5_build_183 rfl ?_
          refine ag_chk (fun h15 => ?_)
          have qh15 := inb_lt h15
          refine aC_22 (by decide) h15 dX5_build_184 ?_
          refine ag_aload_n dX5_build_185 rfl ?_
          refine gC_X5_tasksText ho0 fl_X5_74 dX5_build_186 ?_
          refine ag_iload_n dX5_build_189 rfl ?_
          refine ag_iconst (v := 5) dX5_build_190 (by decide) ?_
          refine ag_imul dX5_build_191 ?_
          refine ag_iadd dX5_build_192 ?_
          refine ag_bnd (fun p16 hp16 => ?_)
          refine ag_ivVe (c_X5_makeTask o0 o1 ((v9).toNatClampNeg) ((V10 408 o0 0) + (v9 * 5)) ho0 ho1 (by omega) hp16) vwC_D (vwC_at (kpC_4 _ ho0)) rfl cs_X5_191 rfl rfl (Nat.le_of_ble_eq_true rfl) ⟨by decide, by decide⟩ ⟨Nat.zero_le _, Nat.zero_le _⟩ dX5_build_193 ?_
          refine ag_iincL (L' := fun v17 => [some (.ref (bs + posC 4 o0)), some (.ref (bs + posC 8 o1)), some (.int v17), none, none]) dX5_build_196 (by decide) rfl (by decide) (fun _ => rfl) (fun v17 => ?_)
          refine ag_goto (tgt := 163) dX5_build_199 (by decide) ?_
          exact ih12 v17 p16
  · refine ag_loop2 (F := f_X5_build_L28 o0 o1 kb k3) (L1 := fun v18 V19 => [some (.ref (bs + posC 4 o0)), some (.ref (bs + posC 8 o1)), some (.int v18), none, none]) (st1 := fun v18 V19 => []) (ws1 := fun v18 V19 => vwC cy bs kb V19) (fun n20 ih21 v18 V19 => ?_) (fun _ _ => rfl) FU 0 p2
    rw [f_X5_build_L28]
    refine ag_iload_n dX5_build_28 rfl ?_
    refine ag_aload_n dX5_build_29 rfl ?_
    refine gC_X5_compartments ho0 fl_X5_61 dX5_build_30 ?_
    refine ag_icmp_ge (tgt := 161) dX5_build_33 (by decide) (fun h22 => ?_) (fun h22 => ?_)
    · refine ag_drop [2] (L' := [some (.ref (bs + posC 4 o0)), some (.ref (bs + posC 8 o1)), none, none, none]) rfl ?_
      exact hk4 V19
    · refine ag_iload_n dX5_build_36 rfl ?_
      refine ag_bipush (v := 8) dX5_build_37 (by decide) ?_
      refine ag_icmp_ge (tgt := 161) dX5_build_39 (by decide) (fun h23 => ?_) (fun h23 => ?_)
      · refine ag_drop [2] (L' := [some (.ref (bs + posC 4 o0)), some (.ref (bs + posC 8 o1)), none, none, none]) rfl ?_
        exact hk4 V19
      · refine ag_aload_n dX5_build_42 rfl ?_
        refine gC_X10_compartments ho1 fl_X5_67 dX5_build_43 ?_
        refine ag_iload_n dX5_build_46 rfl ?_
        refine ag_chk (fun h24 => ?_)
        have qh24 := inb_lt h24
        refine aC_21 (by decide) h24 dX5_build_47 ?_
        refine ag_astore_n (L' := [some (.ref (bs + posC 4 o0)), some (.ref (bs + posC 8 o1)), some (.int v18), some (.ref (bs + posC 1 ((v18).toNatClampNeg))), none]) dX5_build_48 (by decide) rfl ?_
        refine ag_iconst (v := 0) dX5_build_49 (by decide) ?_
        refine ag_istore (L' := [some (.ref (bs + posC 4 o0)), some (.ref (bs + posC 8 o1)), some (.int v18), some (.ref (bs + posC 1 ((v18).toNatClampNeg))), some (.int 0)]) dX5_build_50 (by decide) rfl ?_
        refine ag_jn1 (j := 95) (L1 := fun V27 => [some (.ref (bs + posC 4 o0)), some (.ref (bs + posC 8 o1)), some (.int v18), some (.ref (bs + posC 1 ((v18).toNatClampNeg))), none]) (st1 := fun V27 => []) (ws1 := fun V27 => vwC cy bs kb V27) (fun V27 => ?_) (fun k25 hk26 => ?_)
        · refine ag_iconst (v := 0) dX5_build_95 (by decide) ?_
          refine ag_istore (L' := [some (.ref (bs + posC 4 o0)), some (.ref (bs + posC 8 o1)), some (.int v18), some (.ref (bs + posC 1 ((v18).toNatClampNeg))), some (.int 0)]) dX5_build_96 (by decide) rfl ?_
          refine ag_jn1 (j := 155) (L1 := fun V30 => [some (.ref (bs + posC 4 o0)), some (.ref (bs + posC 8 o1)), some (.int v18), some (.ref (bs + posC 1 ((v18).toNatClampNeg))), none]) (st1 := fun V30 => []) (ws1 := fun V30 => vwC cy bs kb V30) (fun V30 => ?_) (fun k28 hk29 => ?_)
          · refine ag_iincL (L' := fun v31 => [some (.ref (bs + posC 4 o0)), some (.ref (bs + posC 8 o1)), some (.int v31), some (.ref (bs + posC 1 ((v18).toNatClampNeg))), none]) dX5_build_155 (by decide) rfl (by decide) (fun _ => rfl) (fun v31 => ?_)
            refine ag_goto (tgt := 28) dX5_build_158 (by decide) ?_
            refine ag_drop [3] (L' := [some (.ref (bs + posC 4 o0)), some (.ref (bs + posC 8 o1)), some (.int v31), none, none]) rfl ?_
            exact ih21 v31 V30
          · refine ag_loop2 (F := f_X5_build_L98 o0 o1 kb v18 k28) (L1 := fun v32 V33 => [some (.ref (bs + posC 4 o0)), some (.ref (bs + posC 8 o1)), some (.int v18), some (.ref (bs + posC 1 ((v18).toNatClampNeg))), some (.int v32)]) (st1 := fun v32 V33 => []) (ws1 := fun v32 V33 => vwC cy bs kb V33) (fun n34 ih35 v32 V33 => ?_) (fun _ _ => rfl) FU 0 V27
            rw [f_X5_build_L98]
            refine ag_iload dX5_build_98 rfl ?_
            refine ag_aload_n dX5_build_100 rfl ?_
            refine gC_X1_imports (by omega) fl_X5_88 dX5_build_101 ?_
            refine ag_icmp_ge (tgt := 155) dX5_build_104 (by decide) (fun h36 => ?_) (fun h36 => ?_)
            · refine ag_drop [4] (L' := [some (.ref (bs + posC 4 o0)), some (.ref (bs + posC 8 o1)), some (.int v18), some (.ref (bs + posC 1 ((v18).toNatClampNeg))), none]) rfl ?_
              exact hk29 V33
            · refine ag_aload_n dX5_build_107 rfl ?_
              refine ag_aload_n dX5_build_108 rfl ?_
              refine ag_aload_n dX5_build_109 rfl ?_
              refine gC_X1_importsText (by omega) fl_X5_98 dX5_build_110 ?_
              refine ag_iload dX5_build_113 rfl ?_
              refine ag_iconst (v := 3) dX5_build_115 (by decide) ?_
              refine ag_imul dX5_build_116 ?_
              refine ag_iadd dX5_build_117 ?_
              refine ag_bnd (fun p37 hp37 => ?_)
              refine ag_ivVe (c_X5_makeImport o0 o1 ((V33 106 ((v18).toNatClampNeg) 0) + (v32 * 3)) ho0 ho1 hp37) vwC_D (vwC_at (kpC_4 _ ho0)) rfl cs_X5_171 rfl rfl (Nat.le_of_ble_eq_true rfl) ⟨by decide, by decide⟩ ⟨Nat.zero_le _, Nat.zero_le _⟩ dX5_build_118 ?_
              refine ag_aload_n dX5_build_121 rfl ?_
              refine gC_X10_store ho1 fl_X5_143 dX5_build_122 ?_
              refine ag_aload_n dX5_build_125 rfl ?_
              refine gC_X1_importsAt (by omega) fl_X5_174 dX5_build_126 ?_
              refine ag_iload dX5_build_129 rfl ?_
              refine ag_bipush (v := 16) dX5_build_131 (by decide) ?_
              refine ag_imul dX5_build_133 ?_
              refine ag_iadd dX5_build_134 ?_
              refine ag_aload_n dX5_build_135 rfl ?_
              refine gC_X10_scratch ho1 fl_X5_177 dX5_build_136 ?_
              refine ag_aload_n dX5_build_139 rfl ?_
              refine gC_X10_scratch ho1 fl_X5_177 dX5_build_140 ?_
              refine gC_X0_tagged (by decide) fl_X5_181 dX5_build_143 ?_
              refine ag_bnd (fun p38 hp38 => ?_)
              refine ag_ivVe (c_X8_writeCap 0 ((p37 109 ((v18).toNatClampNeg) 0) + (v32 * 16)) 582 (i2b (p37 5 582 0)) (by decide) (by decide) hp38) vwC_D (vwC_at (kpC_6 _ (by decide))) rfl cs_X5_187 rfl rfl (Nat.le_of_ble_eq_true rfl) ⟨by decide, by decide⟩ ⟨Nat.zero_le _, Nat.zero_le _⟩ dX5_build_146 ?_
              refine ag_iincL (L' := fun v39 => [some (.ref (bs + posC 4 o0)), some (.ref (bs + posC 8 o1)), some (.int v18), some (.ref (bs + posC 1 ((v18).toNatClampNeg))), some (.int v39)]) dX5_build_149 (by decide) rfl (by decide) (fun _ => rfl) (fun v39 => ?_)
              refine ag_goto (tgt := 98) dX5_build_152 (by decide) ?_
              exact ih35 v39 p38
        · refine ag_loop2 (F := f_X5_build_L52 o0 kb v18 k25) (L1 := fun v40 V41 => [some (.ref (bs + posC 4 o0)), some (.ref (bs + posC 8 o1)), some (.int v18), some (.ref (bs + posC 1 ((v18).toNatClampNeg))), some (.int v40)]) (st1 := fun v40 V41 => []) (ws1 := fun v40 V41 => vwC cy bs kb V41) (fun n42 ih43 v40 V41 => ?_) (fun _ _ => rfl) FU 0 V19
          rw [f_X5_build_L52]
          refine ag_iload dX5_build_52 rfl ?_
          refine ag_aload_n dX5_build_54 rfl ?_
          refine gC_X1_words (by omega) fl_X5_77 dX5_build_55 ?_
          refine ag_iconst (v := 4) dX5_build_58 (by decide) ?_
          refine ag_imul dX5_build_59 ?_
          refine ag_icmp_ge (tgt := 95) dX5_build_60 (by decide) (fun h44 => ?_) (fun h44 => ?_)
          · refine ag_drop [4] (L' := [some (.ref (bs + posC 4 o0)), some (.ref (bs + posC 8 o1)), some (.int v18), some (.ref (bs + posC 1 ((v18).toNatClampNeg))), none]) rfl ?_
            exact hk26 V41
          · refine ag_aload_n dX5_build_63 rfl ?_
            refine gC_X10_store ho1 fl_X5_143 dX5_build_64 ?_
            refine ag_aload_n dX5_build_67 rfl ?_
            refine gC_X1_codeAt (by omega) fl_X5_164 dX5_build_68 ?_
            refine ag_iload dX5_build_71 rfl ?_
            refine ag_iadd dX5_build_73 ?_
            refine ag_iconst (v := 1) dX5_build_74 (by decide) ?_
            refine ag_aload_n dX5_build_75 rfl ?_
            refine ag_aload_n dX5_build_76 rfl ?_
            refine gC_X1_codeText (by omega) fl_X5_104 dX5_build_77 ?_
            refine ag_iload dX5_build_80 rfl ?_
            refine ag_iadd dX5_build_82 ?_
            refine ag_bnd (fun p45 hp45 => ?_)
            refine ag_ivIp (c_X5_byteAt o0 ((V41 107 ((v18).toNatClampNeg) 0) + v40) ho0 hp45) vwC_D (vwC_at (kpC_4 _ ho0)) rfl cs_X5_53 rfl rfl (Nat.le_of_ble_eq_true rfl) ⟨by decide, by decide⟩ ⟨Nat.zero_le _, Nat.zero_le _⟩ dX5_build_83 ?_
            refine ag_bnd (fun p46 hp46 => ?_)
            refine ag_ivVe (c_X8_write 0 ((V41 108 ((v18).toNatClampNeg) 0) + v40) 1 p45 (by decide) hp46) vwC_D (vwC_at (kpC_6 _ (by decide))) rfl cs_X5_167 rfl rfl (Nat.le_of_ble_eq_true rfl) ⟨by decide, by decide⟩ ⟨Nat.zero_le _, Nat.zero_le _⟩ dX5_build_86 ?_
            refine ag_iincL (L' := fun v47 => [some (.ref (bs + posC 4 o0)), some (.ref (bs + posC 8 o1)), some (.int v18), some (.ref (bs + posC 1 ((v18).toNatClampNeg))), some (.int v47)]) dX5_build_89 (by decide) rfl (by decide) (fun _ => rfl) (fun v47 => ?_)
            refine ag_goto (tgt := 52) dX5_build_92 (by decide) ?_
            exact ih43 v47 p46
set_option maxRecDepth 100000 in
set_option maxHeartbeats 4000000 in
theorem c_X5_load {l : Launch} {D : va_G} {cy : Nat → ClassId} {bs kb : Nat} {V : HV} (o0 : Nat) (o1 : Nat) (x2 : Int32) (ho0 : o0 < 1) (ho1 : o1 < 1) {z : Int32 × HV} (hz : f_X5_load kb o0 o1 x2 V = some z) : CM l (aG 737 bs) D (tyL cy) (vwC cy bs kb) yX5_load cX5_load 3 (some .int) 6 142 tvI [.ref (bs + posC 4 o0), .ref (bs + posC 8 o1), .int x2] V z := by
  refine cm_of vwC_D (by decide +kernel) (own := RX5) rfl (Nat.le_of_ble_eq_true rfl) (L := [some (.ref (bs + posC 4 o0)), some (.ref (bs + posC 8 o1)), some (.int x2)]) rfl hz (fun Γ => ?_)
  unfold f_X5_load
  refine ag_aload_n dX5_load_0 rfl ?_
  refine ag_bnd (fun p1 hp1 => ?_)
  refine ag_ivVe (c_X10_reset o1 ho1 hp1) vwC_D (vwC_at (kpC_8 _ ho1)) rfl cs_X5_22 rfl rfl (Nat.le_of_ble_eq_true rfl) ⟨by decide, by decide⟩ ⟨Nat.zero_le _, Nat.zero_le _⟩ dX5_load_1 ?_
  refine ag_aload_n dX5_load_4 rfl ?_
  refine ag_iconst (v := 0) dX5_load_5 (by decide) ?_
  refine pC_X5_at ho0 fl_X5_27 dX5_load_6 ?_
  refine ag_ltV (fun V2 => ?_)
  refine ag_aload_n dX5_load_9 rfl ?_
  refine ag_iload_n dX5_load_10 rfl ?_
  refine pC_X5_end ho0 fl_X5_30 dX5_load_11 ?_
  refine ag_ltV (fun V3 => ?_)
  refine ag_aload_n dX5_load_14 rfl ?_
  refine ag_iconst (v := 0) dX5_load_15 (by decide) ?_
  refine pC_X5_length ho0 fl_X5_19 dX5_load_16 ?_
  refine ag_ltV (fun V4 => ?_)
  refine ag_aload_n dX5_load_19 rfl ?_
  refine ag_iconst (v := 0) dX5_load_20 (by decide) ?_
  refine pC_X5_fault ho0 fl_X5_33 dX5_load_21 ?_
  refine ag_ltV (fun V5 => ?_)
  refine ag_aload_n dX5_load_24 rfl ?_
  refine ag_iconst (v := (-1)) dX5_load_25 (by decide) ?_
  refine pC_X5_place ho0 fl_X5_15 dX5_load_26 ?_
  refine ag_ltV (fun V6 => ?_)
  refine ag_aload_n dX5_load_29 rfl ?_
  refine ag_aload_n dX5_load_30 rfl ?_
  refine ag_bnd (fun p7 hp7 => ?_)
  refine ag_ivVe (c_X5_readImage o0 o1 ho0 ho1 hp7) vwC_D (vwC_at (kpC_4 _ ho0)) rfl cs_X5_36 rfl rfl (Nat.le_of_ble_eq_true rfl) ⟨by decide, by decide⟩ ⟨Nat.zero_le _, Nat.zero_le _⟩ dX5_load_31 ?_
  refine ag_aload_n dX5_load_34 rfl ?_
  refine gC_X5_fault ho0 fl_X5_33 dX5_load_35 ?_
  refine ag_jn1 (j := 46) (L1 := fun V8 => [some (.ref (bs + posC 4 o0)), some (.ref (bs + posC 8 o1)), some (.int x2)]) (st1 := fun V8 => []) (ws1 := fun V8 => vwC cy bs kb V8) (fun V8 => ?_) (fun k9 hk10 => ?_)
  · refine ag_aload_n dX5_load_46 rfl ?_
    refine gC_X5_fault ho0 fl_X5_33 dX5_load_47 ?_
    refine ag_jn1 (j := 73) (L1 := fun V11 => [some (.ref (bs + posC 4 o0)), some (.ref (bs + posC 8 o1)), some (.int x2)]) (st1 := fun V11 => []) (ws1 := fun V11 => vwC cy bs kb V11) (fun V11 => ?_) (fun k12 hk13 => ?_)
    · refine ag_aload_n dX5_load_73 rfl ?_
      refine gC_X5_fault ho0 fl_X5_33 dX5_load_74 ?_
      refine ag_jn1 (j := 85) (L1 := fun V14 => [some (.ref (bs + posC 4 o0)), some (.ref (bs + posC 8 o1)), some (.int x2)]) (st1 := fun V14 => []) (ws1 := fun V14 => vwC cy bs kb V14) (fun V14 => ?_) (fun k15 hk16 => ?_)
      · refine ag_aload_n dX5_load_85 rfl ?_
        refine gC_X5_fault ho0 fl_X5_33 dX5_load_86 ?_
        refine ag_jn1 (j := 97) (L1 := fun V17 => [some (.ref (bs + posC 4 o0)), some (.ref (bs + posC 8 o1)), some (.int x2)]) (st1 := fun V17 => []) (ws1 := fun V17 => vwC cy bs kb V17) (fun V17 => ?_) (fun k18 hk19 => ?_)
        · refine ag_aload_n dX5_load_97 rfl ?_
          refine gC_X5_fault ho0 fl_X5_33 dX5_load_98 ?_
          exact ag_irep dX5_load_101
        · refine ag_if_ne (tgt := 97) dX5_load_89 (by decide) (fun h20 => ?_) (fun h20 => ?_)
          · exact hk19 V14
          · refine ag_aload_n dX5_load_92 rfl ?_
            refine ag_aload_n dX5_load_93 rfl ?_
            refine ag_bnd (fun p21 hp21 => ?_)
            refine ag_ivVe (c_X5_build o0 o1 ho0 ho1 hp21) vwC_D (vwC_at (kpC_4 _ ho0)) rfl cs_X5_50 rfl rfl (Nat.le_of_ble_eq_true rfl) ⟨by decide, by decide⟩ ⟨Nat.zero_le _, Nat.zero_le _⟩ dX5_load_94 ?_
            exact hk19 p21
      · refine ag_if_ne (tgt := 85) dX5_load_77 (by decide) (fun h22 => ?_) (fun h22 => ?_)
        · exact hk16 V11
        · refine ag_aload_n dX5_load_80 rfl ?_
          refine ag_aload_n dX5_load_81 rfl ?_
          refine ag_bnd (fun p23 hp23 => ?_)
          refine ag_ivVe (c_X5_arrange o0 o1 ho0 ho1 hp23) vwC_D (vwC_at (kpC_4 _ ho0)) rfl cs_X5_47 rfl rfl (Nat.le_of_ble_eq_true rfl) ⟨by decide, by decide⟩ ⟨Nat.zero_le _, Nat.zero_le _⟩ dX5_load_82 ?_
          exact hk16 p23
    · refine ag_if_ne (tgt := 73) dX5_load_50 (by decide) (fun h24 => ?_) (fun h24 => ?_)
      · exact hk13 V8
      · refine ag_aload_n dX5_load_53 rfl ?_
        refine gC_X5_at ho0 fl_X5_27 dX5_load_54 ?_
        refine ag_aload_n dX5_load_57 rfl ?_
        refine gC_X5_end ho0 fl_X5_30 dX5_load_58 ?_
        refine ag_icmp_eq (tgt := 73) dX5_load_61 (by decide) (fun h25 => ?_) (fun h25 => ?_)
        · exact hk13 V8
        · refine ag_aload_n dX5_load_64 rfl ?_
          refine ag_iconst (v := 4) dX5_load_65 (by decide) ?_
          refine ag_aload_n dX5_load_66 rfl ?_
          refine gC_X5_at ho0 fl_X5_27 dX5_load_67 ?_
          refine ag_ivVe (c_X5_fail o0 4 (V8 402 o0 0) ho0 rfl) vwC_D (vwC_at (kpC_4 _ ho0)) rfl cs_X5_43 rfl rfl (Nat.le_of_ble_eq_true rfl) ⟨by decide, by decide⟩ ⟨Nat.zero_le _, Nat.zero_le _⟩ dX5_load_70 ?_
          refine ag_ltV (fun V26 => ?_)
          exact hk13 V26
  · refine ag_if_ne (tgt := 46) dX5_load_38 (by decide) (fun h27 => ?_) (fun h27 => ?_)
    · exact hk10 p7
    · refine ag_aload_n dX5_load_41 rfl ?_
      refine ag_aload_n dX5_load_42 rfl ?_
      refine ag_bnd (fun p28 hp28 => ?_)
      refine ag_ivVe (c_X5_checkTargets o0 o1 ho0 ho1 hp28) vwC_D (vwC_at (kpC_4 _ ho0)) rfl cs_X5_40 rfl rfl (Nat.le_of_ble_eq_true rfl) ⟨by decide, by decide⟩ ⟨Nat.zero_le _, Nat.zero_le _⟩ dX5_load_43 ?_
      exact hk10 p28
set_option maxRecDepth 100000 in
set_option maxHeartbeats 4000000 in
theorem c_X8_filterGranule {l : Launch} {D : va_G} {cy : Nat → ClassId} {bs kb : Nat} {V : HV} (o0 : Nat) (x1 : Int32) (ho0 : o0 < 1) {z : HV} (hz : f_X8_filterGranule kb o0 x1 V = some z) : CM l (aG 737 bs) D (tyL cy) (vwC cy bs kb) yX8_filterGranule cX8_filterGranule 3 none 2 46 tvV [.ref (bs + posC 6 o0), .int x1] V ((), z) := by
  refine cm_of vwC_D (by decide +kernel) (own := RX8) rfl (Nat.le_of_ble_eq_true rfl) (L := [some (.ref (bs + posC 6 o0)), some (.int x1), none]) rfl hz (fun Γ => ?_)
  unfold f_X8_filterGranule
  refine ag_iload_n dX8_filterGranule_0 rfl ?_
  refine ag_bipush (v := 16) dX8_filterGranule_1 (by decide) ?_
  refine ag_imul dX8_filterGranule_3 ?_
  refine ag_ltI (fun v1 => ?_)
  refine ag_istore_n (L' := [some (.ref (bs + posC 6 o0)), some (.int x1), some (.int v1)]) dX8_filterGranule_4 (by decide) rfl ?_
  refine ag_aload_n dX8_filterGranule_5 rfl ?_
  refine ag_iload_n dX8_filterGranule_6 rfl ?_
  refine ag_iconst (v := 1) dX8_filterGranule_7 (by decide) ?_
  refine ag_bnd (fun p2 hp2 => ?_)
  refine ag_ivZp (c_X8_isMarked o0 v1 1 ho0 hp2) vwC_D (vwC_at (kpC_6 _ ho0)) rfl cs_X8_36 rfl rfl (Nat.le_of_ble_eq_true rfl) ⟨by decide, by decide⟩ ⟨Nat.zero_le _, Nat.zero_le _⟩ dX8_filterGranule_8 ?_
  refine ag_bif_eq (tgt := 52) dX8_filterGranule_11 (by decide) (fun h3 => ?_) (fun h3 => ?_)
  · exact ag_vrep dX8_filterGranule_52
  · refine ag_aload_n dX8_filterGranule_14 rfl ?_
    refine ag_iload_n dX8_filterGranule_15 rfl ?_
    refine ag_bipush (v := 12) dX8_filterGranule_16 (by decide) ?_
    refine ag_iadd dX8_filterGranule_18 ?_
    refine ag_iconst (v := 1) dX8_filterGranule_19 (by decide) ?_
    refine ag_bnd (fun p4 hp4 => ?_)
    refine ag_ivIp (c_X8_load o0 (v1 + 12) 1 ho0 hp4) vwC_D (vwC_at (kpC_6 _ ho0)) rfl cs_X8_32 rfl rfl (Nat.le_of_ble_eq_true rfl) ⟨by decide, by decide⟩ ⟨Nat.zero_le _, Nat.zero_le _⟩ dX8_filterGranule_20 ?_
    refine ag_bipush (v := 32) dX8_filterGranule_23 (by decide) ?_
    refine ag_iand dX8_filterGranule_25 ?_
    refine ag_if_ne (tgt := 52) dX8_filterGranule_26 (by decide) (fun h5 => ?_) (fun h5 => ?_)
    · exact ag_vrep dX8_filterGranule_52
    · refine ag_aload_n dX8_filterGranule_29 rfl ?_
      refine ag_aload_n dX8_filterGranule_30 rfl ?_
      refine ag_iload_n dX8_filterGranule_31 rfl ?_
      refine ag_iconst (v := 4) dX8_filterGranule_32 (by decide) ?_
      refine ag_iadd dX8_filterGranule_33 ?_
      refine ag_iconst (v := 4) dX8_filterGranule_34 (by decide) ?_
      refine ag_bnd (fun p6 hp6 => ?_)
      refine ag_ivIp (c_X8_load o0 (v1 + 4) 4 ho0 hp6) vwC_D (vwC_at (kpC_6 _ ho0)) rfl cs_X8_32 rfl rfl (Nat.le_of_ble_eq_true rfl) ⟨by decide, by decide⟩ ⟨Nat.zero_le _, Nat.zero_le _⟩ dX8_filterGranule_35 ?_
      refine ag_iconst (v := 2) dX8_filterGranule_38 (by decide) ?_
      refine ag_bnd (fun p7 hp7 => ?_)
      refine ag_ivZp (c_X8_isMarked o0 p6 2 ho0 hp7) vwC_D (vwC_at (kpC_6 _ ho0)) rfl cs_X8_36 rfl rfl (Nat.le_of_ble_eq_true rfl) ⟨by decide, by decide⟩ ⟨Nat.zero_le _, Nat.zero_le _⟩ dX8_filterGranule_39 ?_
      refine ag_bif_eq (tgt := 52) dX8_filterGranule_42 (by decide) (fun h8 => ?_) (fun h8 => ?_)
      · exact ag_vrep dX8_filterGranule_52
      · refine ag_aload_n dX8_filterGranule_45 rfl ?_
        refine ag_iload_n dX8_filterGranule_46 rfl ?_
        refine ag_iconst (v := 1) dX8_filterGranule_47 (by decide) ?_
        refine ag_iconst (v := 0) dX8_filterGranule_48 (by decide) ?_
        refine ag_bnd (fun p9 hp9 => ?_)
        refine ag_ivVe (c_X8_mark o0 v1 1 false ho0 hp9) vwC_D (vwC_at (kpC_6 _ ho0)) rfl cs_X8_28 rfl rfl (Nat.le_of_ble_eq_true rfl) ⟨by decide, by decide⟩ ⟨Nat.zero_le _, Nat.zero_le _⟩ dX8_filterGranule_49 ?_
        exact ag_vrep dX8_filterGranule_52
set_option maxRecDepth 100000 in
set_option maxHeartbeats 4000000 in
theorem c_X9_filterFramesBy {l : Launch} {D : va_G} {cy : Nat → ClassId} {bs kb : Nat} {V : HV} (o0 : Nat) (o1 : Nat) (ho0 : o0 < 6) (ho1 : o1 < 1) {z : HV} (hz : f_X9_filterFramesBy kb o0 o1 V = some z) : CM l (aG 737 bs) D (tyL cy) (vwC cy bs kb) yX9_filterFramesBy cX9_filterFramesBy 3 none 3 65 tvV [.ref (bs + posC 7 o0), .ref (bs + posC 6 o1)] V ((), z) := by
  refine cm_of vwC_D (by decide +kernel) (own := RX9) rfl (Nat.le_of_ble_eq_true rfl) (L := [some (.ref (bs + posC 7 o0)), some (.ref (bs + posC 6 o1)), none]) rfl hz (fun Γ => ?_)
  unfold f_X9_filterFramesBy
  refine ag_iconst (v := 0) dX9_filterFramesBy_0 (by decide) ?_
  refine ag_istore_n (L' := [some (.ref (bs + posC 7 o0)), some (.ref (bs + posC 6 o1)), some (.int 0)]) dX9_filterFramesBy_1 (by decide) rfl ?_
  refine ag_jn1 (j := 32) (L1 := fun V3 => [some (.ref (bs + posC 7 o0)), some (.ref (bs + posC 6 o1)), none]) (st1 := fun V3 => []) (ws1 := fun V3 => vwC cy bs kb V3) (fun V3 => ?_) (fun k1 hk2 => ?_)
  · exact ag_vrep dX9_filterFramesBy_32
  · refine ag_loop2 (F := f_X9_filterFramesBy_L2 o0 o1 kb k1) (L1 := fun v4 V5 => [some (.ref (bs + posC 7 o0)), some (.ref (bs + posC 6 o1)), some (.int v4)]) (st1 := fun v4 V5 => []) (ws1 := fun v4 V5 => vwC cy bs kb V5) (fun n6 ih7 v4 V5 => ?_) (fun _ _ => rfl) FU 0 V
    rw [f_X9_filterFramesBy_L2]
    refine ag_iload_n dX9_filterFramesBy_2 rfl ?_
    refine ag_aload_n dX9_filterFramesBy_3 rfl ?_
    refine gC_X9_frameCount ho0 fl_X9_79 dX9_filterFramesBy_4 ?_
    refine ag_icmp_ge (tgt := 32) dX9_filterFramesBy_7 (by decide) (fun h8 => ?_) (fun h8 => ?_)
    · refine ag_drop [2] (L' := [some (.ref (bs + posC 7 o0)), some (.ref (bs + posC 6 o1)), none]) rfl ?_
      exact hk2 V5
    · refine ag_iload_n dX9_filterFramesBy_10 rfl ?_
      refine ag_bipush (v := 16) dX9_filterFramesBy_11 (by decide) ?_
      refine ag_icmp_ge (tgt := 32) dX9_filterFramesBy_13 (by decide) (fun h9 => ?_) (fun h9 => ?_)
      · refine ag_drop [2] (L' := [some (.ref (bs + posC 7 o0)), some (.ref (bs + posC 6 o1)), none]) rfl ?_
        exact hk2 V5
      · refine ag_aload_n dX9_filterFramesBy_16 rfl ?_
        refine gC_X9_frames ho0 fl_X9_24 dX9_filterFramesBy_17 ?_
        refine ag_iload_n dX9_filterFramesBy_20 rfl ?_
        refine ag_chk (fun h10 => ?_)
        have qh10 := inb_lt h10
        refine aC_30 ho0 h10 dX9_filterFramesBy_21 ?_
        refine ag_aload_n dX9_filterFramesBy_22 rfl ?_
        refine ag_bnd (fun p11 hp11 => ?_)
        refine ag_ivVe (c_X3_filterBy (16 * o0 + (v4).toNatClampNeg) o1 (by omega) ho1 hp11) vwC_D (vwC_at (kpC_2 _ (by omega))) rfl cs_X9_159 rfl rfl (Nat.le_of_ble_eq_true rfl) ⟨by decide, by decide⟩ ⟨Nat.zero_le _, Nat.zero_le _⟩ dX9_filterFramesBy_23 ?_
        refine ag_iincL (L' := fun v12 => [some (.ref (bs + posC 7 o0)), some (.ref (bs + posC 6 o1)), some (.int v12)]) dX9_filterFramesBy_26 (by decide) rfl (by decide) (fun _ => rfl) (fun v12 => ?_)
        refine ag_goto (tgt := 2) dX9_filterFramesBy_29 (by decide) ?_
        exact ih7 v12 p11
set_option maxRecDepth 100000 in
set_option maxHeartbeats 4000000 in
theorem c_X9_isDue {l : Launch} {D : va_G} {cy : Nat → ClassId} {bs kb : Nat} {V : HV} (o0 : Nat) (x1 : Int32) (ho0 : o0 < 6) {z : Bool} (hz : f_X9_isDue kb o0 x1 V = z) : CM l (aG 737 bs) D (tyL cy) (vwC cy bs kb) yX9_isDue cX9_isDue 2 (some .boolean) 0 0 tvZ [.ref (bs + posC 7 o0), .int x1] V (z, V) := by
  refine cm_of vwC_D (by decide +kernel) (own := RX9) rfl (Nat.le_of_ble_eq_true rfl) (L := [some (.ref (bs + posC 7 o0)), some (.int x1)]) rfl hz (fun Γ => ?_)
  unfold f_X9_isDue
  refine ag_aload_n dX9_isDue_0 rfl ?_
  refine gC_X9_state ho0 fl_X9_52 dX9_isDue_1 ?_
  refine ag_iconst (v := 1) dX9_isDue_4 (by decide) ?_
  refine ag_dv (j := 29) (L1 := fun _ => [some (.ref (bs + posC 7 o0)), some (.int x1)]) (st1 := fun v1 => [.int (b2i v1)]) (ws1 := fun _ => vwC cy bs kb V) (fun v1 => ?_) (fun k3 hk2 => ?_)
  · exact ag_zrp (x := v1) dX9_isDue_29
  · refine ag_icmp_eq_v (tgt := 16) dX9_isDue_5 (by decide) (fun h4 => ?_) (fun h4 => ?_)
    · refine ag_aload_n dX9_isDue_16 rfl ?_
      refine gC_X9_readyAt ho0 fl_X9_55 dX9_isDue_17 ?_
      refine ag_iload_n dX9_isDue_20 rfl ?_
      refine ag_icmp_gt_v (tgt := 28) dX9_isDue_21 (by decide) (fun h5 => ?_) (fun h5 => ?_)
      · refine ag_iconst (v := 0) dX9_isDue_28 (by decide) ?_
        exact hk2 false
      · refine ag_iconst (v := 1) dX9_isDue_24 (by decide) ?_
        refine ag_goto (tgt := 29) dX9_isDue_25 (by decide) ?_
        exact hk2 true
    · refine ag_aload_n dX9_isDue_8 rfl ?_
      refine gC_X9_state ho0 fl_X9_52 dX9_isDue_9 ?_
      refine ag_iconst (v := 2) dX9_isDue_12 (by decide) ?_
      refine ag_icmp_ne_v (tgt := 28) dX9_isDue_13 (by decide) (fun h6 => ?_) (fun h6 => ?_)
      · refine ag_iconst (v := 0) dX9_isDue_28 (by decide) ?_
        exact hk2 false
      · refine ag_aload_n dX9_isDue_16 rfl ?_
        refine gC_X9_readyAt ho0 fl_X9_55 dX9_isDue_17 ?_
        refine ag_iload_n dX9_isDue_20 rfl ?_
        refine ag_icmp_gt_v (tgt := 28) dX9_isDue_21 (by decide) (fun h7 => ?_) (fun h7 => ?_)
        · refine ag_iconst (v := 0) dX9_isDue_28 (by decide) ?_
          exact hk2 false
        · refine ag_iconst (v := 1) dX9_isDue_24 (by decide) ?_
          refine ag_goto (tgt := 29) dX9_isDue_25 (by decide) ?_
          exact hk2 true
set_option maxRecDepth 100000 in
set_option maxHeartbeats 4000000 in
theorem c_X9_goesBefore {l : Launch} {D : va_G} {cy : Nat → ClassId} {bs kb : Nat} {V : HV} (o0 : Nat) (o1 : Nat) (ho0 : o0 < 6) (ho1 : o1 < 6) {z : Bool} (hz : f_X9_goesBefore kb o0 o1 V = z) : CM l (aG 737 bs) D (tyL cy) (vwC cy bs kb) yX9_goesBefore cX9_goesBefore 2 (some .boolean) 0 0 tvZ [.ref (bs + posC 7 o0), .ref (bs + posC 7 o1)] V (z, V) := by
  refine cm_of vwC_D (by decide +kernel) (own := RX9) rfl (Nat.le_of_ble_eq_true rfl) (L := [some (.ref (bs + posC 7 o0)), some (.ref (bs + posC 7 o1))]) rfl hz (fun Γ => ?_)
  unfold f_X9_goesBefore
  refine ag_aload_n dX9_goesBefore_0 rfl ?_
  refine gC_X9_priority ho0 fl_X9_33 dX9_goesBefore_1 ?_
  refine ag_aload_n dX9_goesBefore_4 rfl ?_
  refine gC_X9_priority ho1 fl_X9_33 dX9_goesBefore_5 ?_
  refine ag_dv (j := 38) (L1 := fun _ => [some (.ref (bs + posC 7 o0)), some (.ref (bs + posC 7 o1))]) (st1 := fun v1 => [.int (b2i v1)]) (ws1 := fun _ => vwC cy bs kb V) (fun v1 => ?_) (fun k3 hk2 => ?_)
  · exact ag_zrp (x := v1) dX9_goesBefore_38
  · refine ag_icmp_gt_v (tgt := 33) dX9_goesBefore_8 (by decide) (fun h4 => ?_) (fun h4 => ?_)
    · refine ag_iconst (v := 1) dX9_goesBefore_33 (by decide) ?_
      refine ag_goto (tgt := 38) dX9_goesBefore_34 (by decide) ?_
      exact hk2 true
    · refine ag_aload_n dX9_goesBefore_11 rfl ?_
      refine gC_X9_priority ho0 fl_X9_33 dX9_goesBefore_12 ?_
      refine ag_aload_n dX9_goesBefore_15 rfl ?_
      refine gC_X9_priority ho1 fl_X9_33 dX9_goesBefore_16 ?_
      refine ag_icmp_ne_v (tgt := 37) dX9_goesBefore_19 (by decide) (fun h5 => ?_) (fun h5 => ?_)
      · refine ag_iconst (v := 0) dX9_goesBefore_37 (by decide) ?_
        exact hk2 false
      · refine ag_aload_n dX9_goesBefore_22 rfl ?_
        refine gC_X9_lastCurrent ho0 fl_X9_73 dX9_goesBefore_23 ?_
        refine ag_aload_n dX9_goesBefore_26 rfl ?_
        refine gC_X9_lastCurrent ho1 fl_X9_73 dX9_goesBefore_27 ?_
        refine ag_icmp_ge_v (tgt := 37) dX9_goesBefore_30 (by decide) (fun h6 => ?_) (fun h6 => ?_)
        · refine ag_iconst (v := 0) dX9_goesBefore_37 (by decide) ?_
          exact hk2 false
        · refine ag_iconst (v := 1) dX9_goesBefore_33 (by decide) ?_
          refine ag_goto (tgt := 38) dX9_goesBefore_34 (by decide) ?_
          exact hk2 true
set_option maxRecDepth 100000 in
set_option maxHeartbeats 4000000 in
theorem c_X9_part {l : Launch} {D : va_G} {cy : Nat → ClassId} {bs kb : Nat} {V : HV} (o0 : Nat) (x1 : Int32) (ho0 : o0 < 6) {z : Int32} (hz : f_X9_part kb o0 x1 V = z) : CM l (aG 737 bs) D (tyL cy) (vwC cy bs kb) yX9_part cX9_part 2 (some .int) 0 0 tvI [.ref (bs + posC 7 o0), .int x1] V (z, V) := by
  refine cm_of vwC_D (by decide +kernel) (own := RX9) rfl (Nat.le_of_ble_eq_true rfl) (L := [some (.ref (bs + posC 7 o0)), some (.int x1)]) rfl hz (fun Γ => ?_)
  unfold f_X9_part
  refine ag_iload_n dX9_part_0 rfl ?_
  refine ag_if (fun h1 => ?_) (fun h1 => ?_)
  · refine ag_tab (off := 47) (tgt := 48) h1 dX9_part_1 (by decide) (by decide) (by decide) (by decide) ?_
    refine ag_aload_n dX9_part_48 rfl ?_
    refine gC_X9_state ho0 fl_X9_52 dX9_part_49 ?_
    refine ag_iconst (v := 4) dX9_part_52 (by decide) ?_
    refine ag_dv (j := 64) (L1 := fun _ => [some (.ref (bs + posC 7 o0)), some (.int x1)]) (st1 := fun v2 => [.int v2]) (ws1 := fun _ => vwC cy bs kb V) (fun v2 => ?_) (fun k4 hk3 => ?_)
    · exact ag_irp dX9_part_64
    · refine ag_icmp_ne_v (tgt := 60) dX9_part_53 (by decide) (fun h5 => ?_) (fun h5 => ?_)
      · refine ag_aload_n dX9_part_60 rfl ?_
        refine gC_X9_state ho0 fl_X9_52 dX9_part_61 ?_
        exact hk3 (V 711 o0 0)
      · refine ag_iconst (v := 1) dX9_part_56 (by decide) ?_
        refine ag_goto (tgt := 64) dX9_part_57 (by decide) ?_
        exact hk3 1
  · refine ag_if (fun h6 => ?_) (fun h6 => ?_)
    · refine ag_tab (off := 64) (tgt := 65) h6 dX9_part_1 (by decide) (by decide) (by decide) (by decide) ?_
      refine ag_aload_n dX9_part_65 rfl ?_
      refine gC_X9_compartment ho0 fl_X9_90 dX9_part_66 ?_
      exact ag_irp dX9_part_69
    · refine ag_if (fun h7 => ?_) (fun h7 => ?_)
      · refine ag_tab (off := 69) (tgt := 70) h7 dX9_part_1 (by decide) (by decide) (by decide) (by decide) ?_
        refine ag_aload_n dX9_part_70 rfl ?_
        refine gC_X9_frameCount ho0 fl_X9_79 dX9_part_71 ?_
        exact ag_irp dX9_part_74
      · refine ag_if (fun h8 => ?_) (fun h8 => ?_)
        · refine ag_tab (off := 74) (tgt := 75) h8 dX9_part_1 (by decide) (by decide) (by decide) (by decide) ?_
          refine ag_aload_n dX9_part_75 rfl ?_
          refine gC_X9_interrupts ho0 fl_X9_48 dX9_part_76 ?_
          refine ag_dv (j := 87) (L1 := fun _ => [some (.ref (bs + posC 7 o0)), some (.int x1)]) (st1 := fun v9 => [.int (b2i v9)]) (ws1 := fun _ => vwC cy bs kb V) (fun v9 => ?_) (fun k11 hk10 => ?_)
          · exact ag_irp dX9_part_87
          · refine ag_bif_eq_v (tgt := 86) dX9_part_79 (by decide) (fun h12 => ?_) (fun h12 => ?_)
            · refine ag_iconst (v := 0) dX9_part_86 (by decide) ?_
              exact hk10 false
            · refine ag_iconst (v := 1) dX9_part_82 (by decide) ?_
              refine ag_goto (tgt := 87) dX9_part_83 (by decide) ?_
              exact hk10 true
        · refine ag_if (fun h13 => ?_) (fun h13 => ?_)
          · refine ag_tab (off := 87) (tgt := 88) h13 dX9_part_1 (by decide) (by decide) (by decide) (by decide) ?_
            refine ag_aload_n dX9_part_88 rfl ?_
            refine gC_X9_latestFault ho0 fl_X9_67 dX9_part_89 ?_
            exact ag_irp dX9_part_92
          · refine ag_if (fun h14 => ?_) (fun h14 => ?_)
            · refine ag_tab (off := 92) (tgt := 93) h14 dX9_part_1 (by decide) (by decide) (by decide) (by decide) ?_
              refine ag_aload_n dX9_part_93 rfl ?_
              refine gC_X9_done ho0 fl_X9_70 dX9_part_94 ?_
              exact ag_irp dX9_part_97
            · refine ag_if (fun h15 => ?_) (fun h15 => ?_)
              · refine ag_tab (off := 97) (tgt := 98) h15 dX9_part_1 (by decide) (by decide) (by decide) (by decide) ?_
                refine ag_aload_n dX9_part_98 rfl ?_
                refine gC_X9_readyAt ho0 fl_X9_55 dX9_part_99 ?_
                exact ag_irp dX9_part_102
              · refine ag_if (fun h16 => ?_) (fun h16 => ?_)
                · refine ag_tab (off := 102) (tgt := 103) h16 dX9_part_1 (by decide) (by decide) (by decide) (by decide) ?_
                  refine ag_aload_n dX9_part_103 rfl ?_
                  refine gC_X9_stackBase ho0 fl_X9_107 dX9_part_104 ?_
                  exact ag_irp dX9_part_107
                · refine ag_tabD (tgt := 108) dX9_part_1 (by have z0 := lv_neT h1 (k := 0) (a := 0) (by decide); have z1 := lv_neT h6 (k := 1) (a := 1) (by decide); have z2 := lv_neT h7 (k := 2) (a := 2) (by decide); have z3 := lv_neT h8 (k := 3) (a := 3) (by decide); have z4 := lv_neT h13 (k := 4) (a := 4) (by decide); have z5 := lv_neT h14 (k := 5) (a := 5) (by decide); have z6 := lv_neT h15 (k := 6) (a := 6) (by decide); have z7 := lv_neT h16 (k := 7) (a := 7) (by decide); omega) (by decide) ?_
                  refine ag_iconst (v := (-1)) dX9_part_108 (by decide) ?_
                  exact ag_irp dX9_part_109
set_option maxRecDepth 100000 in
set_option maxHeartbeats 4000000 in
theorem c_X10_stands {l : Launch} {D : va_G} {cy : Nat → ClassId} {bs kb : Nat} {V : HV} (o0 : Nat) (ho0 : o0 < 1) {z : Bool} (hz : f_X10_stands kb o0 V = some z) : CM l (aG 737 bs) D (tyL cy) (vwC cy bs kb) yX10_stands cX10_stands 2 (some .boolean) 0 0 tvZ [.ref (bs + posC 8 o0)] V (z, V) := by
  refine cm_of vwC_D (by decide +kernel) (own := RX10) rfl (Nat.le_of_ble_eq_true rfl) (L := [some (.ref (bs + posC 8 o0)), none]) rfl hz (fun Γ => ?_)
  unfold f_X10_stands
  refine ag_iconst (v := 0) dX10_stands_0 (by decide) ?_
  refine ag_istore_n (L' := [some (.ref (bs + posC 8 o0)), some (.int 0)]) dX10_stands_1 (by decide) rfl ?_
  refine ag_jn0 (j := 31) (L1 := [some (.ref (bs + posC 8 o0)), none]) (st1 := []) (ws1 := vwC cy bs kb V) (?_) (fun k1 hk2 => ?_)
  · refine ag_iconst (v := 1) dX10_stands_31 (by decide) ?_
    exact ag_zrpp (x := true) dX10_stands_32
  · refine ag_loop1 (F := f_X10_stands_L2 o0 V k1) (L1 := fun v3 => [some (.ref (bs + posC 8 o0)), some (.int v3)]) (st1 := fun v3 => []) (ws1 := fun v3 => vwC cy bs kb V) (fun n4 ih5 v3 => ?_) (fun _ => rfl) FU 0
    rw [f_X10_stands_L2]
    refine ag_iload_n dX10_stands_2 rfl ?_
    refine ag_aload_n dX10_stands_3 rfl ?_
    refine gC_X10_taskCount ho0 fl_X10_71 dX10_stands_4 ?_
    refine ag_icmp_ge (tgt := 31) dX10_stands_7 (by decide) (fun h6 => ?_) (fun h6 => ?_)
    · refine ag_drop [1] (L' := [some (.ref (bs + posC 8 o0)), none]) rfl ?_
      exact hk2
    · refine ag_aload_n dX10_stands_10 rfl ?_
      refine gC_X10_tasks ho0 fl_X10_31 dX10_stands_11 ?_
      refine ag_iload_n dX10_stands_14 rfl ?_
      refine ag_chk (fun h7 => ?_)
      have qh7 := inb_lt h7
      refine aC_22 (by decide) h7 dX10_stands_15 ?_
      refine gC_X9_state (by omega) fl_X10_102 dX10_stands_16 ?_
      refine ag_iconst (v := 3) dX10_stands_19 (by decide) ?_
      refine ag_icmp_eq (tgt := 25) dX10_stands_20 (by decide) (fun h8 => ?_) (fun h8 => ?_)
      · refine ag_iincL (L' := fun v9 => [some (.ref (bs + posC 8 o0)), some (.int v9)]) dX10_stands_25 (by decide) rfl (by decide) (fun _ => rfl) (fun v9 => ?_)
        refine ag_goto (tgt := 2) dX10_stands_28 (by decide) ?_
        exact ih5 v9
      · refine ag_iconst (v := 0) dX10_stands_23 (by decide) ?_
        exact ag_zrpp (x := false) dX10_stands_24
set_option maxRecDepth 100000 in
set_option maxHeartbeats 4000000 in
theorem c_X10_mustLeave {l : Launch} {D : va_G} {cy : Nat → ClassId} {bs kb : Nat} {V : HV} (o0 : Nat) (o1 : Nat) (ho0 : o0 < 1) (ho1 : o1 < 6) {z : Bool} (hz : f_X10_mustLeave kb o0 o1 V = some z) : CM l (aG 737 bs) D (tyL cy) (vwC cy bs kb) yX10_mustLeave cX10_mustLeave 4 (some .boolean) 0 0 tvZ [.ref (bs + posC 8 o0), .ref (bs + posC 7 o1)] V (z, V) := by
  refine cm_of vwC_D (by decide +kernel) (own := RX10) rfl (Nat.le_of_ble_eq_true rfl) (L := [some (.ref (bs + posC 8 o0)), some (.ref (bs + posC 7 o1)), none, none]) rfl hz (fun Γ => ?_)
  unfold f_X10_mustLeave
  refine ag_aload_n dX10_mustLeave_0 rfl ?_
  refine gC_X10_ran ho0 fl_X10_81 dX10_mustLeave_1 ?_
  refine ag_bipush (v := 50) dX10_mustLeave_4 (by decide) ?_
  refine ag_dv (j := 22) (L1 := fun _ => [some (.ref (bs + posC 8 o0)), some (.ref (bs + posC 7 o1)), none, none]) (st1 := fun v1 => [.int v1]) (ws1 := fun _ => vwC cy bs kb V) (fun v1 => ?_) (fun k17 hk2 => ?_)
  · refine ag_istore_n (L' := [some (.ref (bs + posC 8 o0)), some (.ref (bs + posC 7 o1)), some (.int v1), none]) dX10_mustLeave_22 (by decide) rfl ?_
    refine ag_iconst (v := 0) dX10_mustLeave_23 (by decide) ?_
    refine ag_istore_n (L' := [some (.ref (bs + posC 8 o0)), some (.ref (bs + posC 7 o1)), some (.int v1), some (.int 0)]) dX10_mustLeave_24 (by decide) rfl ?_
    refine ag_jn0 (j := 66) (L1 := [some (.ref (bs + posC 8 o0)), some (.ref (bs + posC 7 o1)), some (.int v1), none]) (st1 := []) (ws1 := vwC cy bs kb V) (?_) (fun k3 hk4 => ?_)
    · refine ag_aload_n dX10_mustLeave_66 rfl ?_
      refine gC_X9_interrupts ho1 fl_X10_136 dX10_mustLeave_67 ?_
      exact ag_zrpp (x := (i2b (V 710 o1 0))) dX10_mustLeave_70
    · refine ag_loop1 (F := f_X10_mustLeave_L25 o0 o1 V v1 k3) (L1 := fun v5 => [some (.ref (bs + posC 8 o0)), some (.ref (bs + posC 7 o1)), some (.int v1), some (.int v5)]) (st1 := fun v5 => []) (ws1 := fun v5 => vwC cy bs kb V) (fun n6 ih7 v5 => ?_) (fun _ => rfl) FU 0
      rw [f_X10_mustLeave_L25]
      refine ag_iload_n dX10_mustLeave_25 rfl ?_
      refine ag_aload_n dX10_mustLeave_26 rfl ?_
      refine gC_X10_taskCount ho0 fl_X10_71 dX10_mustLeave_27 ?_
      refine ag_icmp_ge (tgt := 77) dX10_mustLeave_30 (by decide) (fun h8 => ?_) (fun h8 => ?_)
      · refine ag_iconst (v := 0) dX10_mustLeave_77 (by decide) ?_
        exact ag_zrpp (x := false) dX10_mustLeave_78
      · refine ag_iload_n dX10_mustLeave_33 rfl ?_
        refine ag_aload_n dX10_mustLeave_34 rfl ?_
        refine gC_X9_number ho1 fl_X10_133 dX10_mustLeave_35 ?_
        refine ag_jn0 (j := 71) (L1 := [some (.ref (bs + posC 8 o0)), some (.ref (bs + posC 7 o1)), some (.int v1), some (.int v5)]) (st1 := []) (ws1 := vwC cy bs kb V) (?_) (fun k9 hk10 => ?_)
        · refine ag_iincL (L' := fun v11 => [some (.ref (bs + posC 8 o0)), some (.ref (bs + posC 7 o1)), some (.int v1), some (.int v11)]) dX10_mustLeave_71 (by decide) rfl (by decide) (fun _ => rfl) (fun v11 => ?_)
          refine ag_goto (tgt := 25) dX10_mustLeave_74 (by decide) ?_
          exact ih7 v11
        · refine ag_icmp_eq (tgt := 71) dX10_mustLeave_38 (by decide) (fun h12 => ?_) (fun h12 => ?_)
          · exact hk10
          · refine ag_aload_n dX10_mustLeave_41 rfl ?_
            refine gC_X10_tasks ho0 fl_X10_31 dX10_mustLeave_42 ?_
            refine ag_iload_n dX10_mustLeave_45 rfl ?_
            refine ag_chk (fun h13 => ?_)
            have qh13 := inb_lt h13
            refine aC_22 (by decide) h13 dX10_mustLeave_46 ?_
            refine gC_X9_state (by omega) fl_X10_102 dX10_mustLeave_47 ?_
            refine ag_if_ne (tgt := 71) dX10_mustLeave_50 (by decide) (fun h14 => ?_) (fun h14 => ?_)
            · exact hk10
            · refine ag_aload_n dX10_mustLeave_53 rfl ?_
              refine gC_X10_tasks ho0 fl_X10_31 dX10_mustLeave_54 ?_
              refine ag_iload_n dX10_mustLeave_57 rfl ?_
              refine ag_chk (fun h15 => ?_)
              have qh15 := inb_lt h15
              refine aC_22 (by decide) h15 dX10_mustLeave_58 ?_
              refine gC_X9_priority (by omega) fl_X10_130 dX10_mustLeave_59 ?_
              refine ag_iload_n dX10_mustLeave_62 rfl ?_
              refine ag_icmp_lt (tgt := 71) dX10_mustLeave_63 (by decide) (fun h16 => ?_) (fun h16 => ?_)
              · exact hk10
              · refine ag_drop [3] (L' := [some (.ref (bs + posC 8 o0)), some (.ref (bs + posC 7 o1)), some (.int v1), none]) rfl ?_
                exact hk4
  · refine ag_icmp_lt_v (tgt := 16) dX10_mustLeave_6 (by decide) (fun h18 => ?_) (fun h18 => ?_)
    · refine ag_aload_n dX10_mustLeave_16 rfl ?_
      refine gC_X9_priority ho1 fl_X10_130 dX10_mustLeave_17 ?_
      refine ag_iconst (v := 1) dX10_mustLeave_20 (by decide) ?_
      refine ag_iadd dX10_mustLeave_21 ?_
      exact hk2 ((V 706 o1 0) + 1)
    · refine ag_aload_n dX10_mustLeave_9 rfl ?_
      refine gC_X9_priority ho1 fl_X10_130 dX10_mustLeave_10 ?_
      refine ag_goto (tgt := 22) dX10_mustLeave_13 (by decide) ?_
      exact hk2 (V 706 o1 0)
set_option maxRecDepth 100000 in
set_option maxHeartbeats 4000000 in
theorem c_X10_best {l : Launch} {D : va_G} {cy : Nat → ClassId} {bs kb : Nat} {V : HV} (o0 : Nat) (ho0 : o0 < 1) {z : Int32} (hz : f_X10_best kb o0 V = some z) : CM l (aG 737 bs) D (tyL cy) (vwC cy bs kb) yX10_best cX10_best 4 (some .int) 1 21 tvI [.ref (bs + posC 8 o0)] V (z, V) := by
  refine cm_of vwC_D (by decide +kernel) (own := RX10) rfl (Nat.le_of_ble_eq_true rfl) (L := [some (.ref (bs + posC 8 o0)), none, none, none]) rfl hz (fun Γ => ?_)
  unfold f_X10_best
  refine ag_iconst (v := (-1)) dX10_best_0 (by decide) ?_
  refine ag_istore_n (L' := [some (.ref (bs + posC 8 o0)), some (.int (-1)), none, none]) dX10_best_1 (by decide) rfl ?_
  refine ag_iconst (v := 0) dX10_best_2 (by decide) ?_
  refine ag_istore_n (L' := [some (.ref (bs + posC 8 o0)), some (.int (-1)), some (.int 0), none]) dX10_best_3 (by decide) rfl ?_
  refine ag_jn1 (j := 55) (L1 := fun v3 => [some (.ref (bs + posC 8 o0)), some (.int v3), none, none]) (st1 := fun v3 => []) (ws1 := fun v3 => vwC cy bs kb V) (fun v3 => ?_) (fun k1 hk2 => ?_)
  · refine ag_iload_n dX10_best_55 rfl ?_
    exact ag_irpp dX10_best_56
  · refine ag_loop2 (F := f_X10_best_L4 o0 kb V k1) (L1 := fun v4 v5 => [some (.ref (bs + posC 8 o0)), some (.int v4), some (.int v5), none]) (st1 := fun v4 v5 => []) (ws1 := fun v4 v5 => vwC cy bs kb V) (fun n6 ih7 v4 v5 => ?_) (fun _ _ => rfl) FU (-1) 0
    rw [f_X10_best_L4]
    refine ag_iload_n dX10_best_4 rfl ?_
    refine ag_aload_n dX10_best_5 rfl ?_
    refine gC_X10_taskCount ho0 fl_X10_71 dX10_best_6 ?_
    refine ag_icmp_ge (tgt := 55) dX10_best_9 (by decide) (fun h8 => ?_) (fun h8 => ?_)
    · refine ag_drop [2] (L' := [some (.ref (bs + posC 8 o0)), some (.int v4), none, none]) rfl ?_
      exact hk2 v4
    · refine ag_aload_n dX10_best_12 rfl ?_
      refine ag_iload_n dX10_best_13 rfl ?_
      refine ag_bnd (fun p9 hp9 => ?_)
      refine ag_ivOp (c_X10_taskAt o0 v4 ho0 hp9) vwC_D (vwC_at (kpC_8 _ ho0)) rfl cs_X10_112 rfl rfl (Nat.le_of_ble_eq_true rfl) ⟨by decide, by decide⟩ ⟨Nat.zero_le _, Nat.zero_le _⟩ dX10_best_14 ?_
      refine ag_ostore_n (L' := [some (.ref (bs + posC 8 o0)), some (.int v4), some (.int v5), some (va_rf (p9.map (fun x => bs + posC 7 x)))]) dX10_best_17 (by decide) rfl ?_
      refine ag_aload_n dX10_best_18 rfl ?_
      refine gC_X10_tasks ho0 fl_X10_31 dX10_best_19 ?_
      refine ag_iload_n dX10_best_22 rfl ?_
      refine ag_chk (fun h10 => ?_)
      have qh10 := inb_lt h10
      refine aC_22 (by decide) h10 dX10_best_23 ?_
      refine gC_X9_state (by omega) fl_X10_102 dX10_best_24 ?_
      refine ag_jn1 (j := 49) (L1 := fun v11 => [some (.ref (bs + posC 8 o0)), some (.int v11), some (.int v5), some (va_rf (p9.map (fun x => bs + posC 7 x)))]) (st1 := fun v11 => []) (ws1 := fun v11 => vwC cy bs kb V) (fun v11 => ?_) (fun k12 hk13 => ?_)
      · refine ag_iincL (L' := fun v14 => [some (.ref (bs + posC 8 o0)), some (.int v11), some (.int v14), some (va_rf (p9.map (fun x => bs + posC 7 x)))]) dX10_best_49 (by decide) rfl (by decide) (fun _ => rfl) (fun v14 => ?_)
        refine ag_goto (tgt := 4) dX10_best_52 (by decide) ?_
        refine ag_drop [3] (L' := [some (.ref (bs + posC 8 o0)), some (.int v11), some (.int v14), none]) rfl ?_
        exact ih7 v11 v14
      · refine ag_if_ne (tgt := 49) dX10_best_27 (by decide) (fun h15 => ?_) (fun h15 => ?_)
        · exact hk13 v4
        · refine ag_oload_n dX10_best_30 rfl ?_
          refine ag_jn0 (j := 47) (L1 := [some (.ref (bs + posC 8 o0)), some (.int v4), some (.int v5), some (va_rf (p9.map (fun x => bs + posC 7 x)))]) (st1 := []) (ws1 := vwC cy bs kb V) (?_) (fun k16 hk17 => ?_)
          · refine ag_iload_n dX10_best_47 rfl ?_
            refine ag_istore_n (L' := [some (.ref (bs + posC 8 o0)), some (.int v5), some (.int v5), some (va_rf (p9.map (fun x => bs + posC 7 x)))]) dX10_best_48 (by decide) rfl ?_
            exact hk13 v5
          · refine ag_ifnull (tgt := 47) dX10_best_31 (by decide) (fun eh19 => ?_) (fun a18 eh19 => ?_)
            · subst eh19
              refine ag_Lc (L' := [some (.ref (bs + posC 8 o0)), some (.int v4), some (.int v5), some (.null)]) rfl ?_
              exact hk17
            · subst eh19
              refine ag_chk (fun h19 => ?_)
              refine ag_Lc (L' := [some (.ref (bs + posC 8 o0)), some (.int v4), some (.int v5), some (.ref (bs + posC 7 a18))]) rfl ?_
              refine ag_aload_n dX10_best_34 rfl ?_
              refine gC_X10_tasks ho0 fl_X10_31 dX10_best_35 ?_
              refine ag_iload_n dX10_best_38 rfl ?_
              refine ag_chk (fun h20 => ?_)
              have qh20 := inb_lt h20
              refine aC_22 (by decide) h20 dX10_best_39 ?_
              refine ag_aload_n dX10_best_40 rfl ?_
              refine ag_ivZp (c_X9_goesBefore ((v5).toNatClampNeg) a18 (by omega) h19 rfl) vwC_D (vwC_at (kpC_7 _ (by omega))) rfl cs_X10_139 rfl rfl (Nat.le_of_ble_eq_true rfl) ⟨by decide, by decide⟩ ⟨Nat.zero_le _, Nat.zero_le _⟩ dX10_best_41 ?_
              refine ag_ltZ (fun v21 => ?_)
              refine ag_bif_eq (tgt := 49) dX10_best_44 (by decide) (fun h22 => ?_) (fun h22 => ?_)
              · exact hk13 v4
              · exact hk17
set_option maxRecDepth 100000 in
set_option maxHeartbeats 4000000 in
theorem c_X10_makeCurrent {l : Launch} {D : va_G} {cy : Nat → ClassId} {bs kb : Nat} {V : HV} (o0 : Nat) (x1 : Int32) (ho0 : o0 < 1) {z : HV} (hz : f_X10_makeCurrent kb o0 x1 V = some z) : CM l (aG 737 bs) D (tyL cy) (vwC cy bs kb) yX10_makeCurrent cX10_makeCurrent 3 none 3 69 tvV [.ref (bs + posC 8 o0), .int x1] V ((), z) := by
  refine cm_of vwC_D (by decide +kernel) (own := RX10) rfl (Nat.le_of_ble_eq_true rfl) (L := [some (.ref (bs + posC 8 o0)), some (.int x1), none]) rfl hz (fun Γ => ?_)
  unfold f_X10_makeCurrent
  refine ag_aload_n dX10_makeCurrent_0 rfl ?_
  refine ag_iload_n dX10_makeCurrent_1 rfl ?_
  refine pC_X10_current ho0 fl_X10_42 dX10_makeCurrent_2 ?_
  refine ag_ltV (fun V1 => ?_)
  refine ag_aload_n dX10_makeCurrent_5 rfl ?_
  refine ag_iconst (v := 0) dX10_makeCurrent_6 (by decide) ?_
  refine pC_X10_ran ho0 fl_X10_81 dX10_makeCurrent_7 ?_
  refine ag_ltV (fun V2 => ?_)
  refine ag_aload_n dX10_makeCurrent_10 rfl ?_
  refine ag_iload_n dX10_makeCurrent_11 rfl ?_
  refine ag_bnd (fun p3 hp3 => ?_)
  refine ag_ivOp (c_X10_taskAt o0 x1 ho0 hp3) vwC_D (vwC_at (kpC_8 _ ho0)) rfl cs_X10_112 rfl rfl (Nat.le_of_ble_eq_true rfl) ⟨by decide, by decide⟩ ⟨Nat.zero_le _, Nat.zero_le _⟩ dX10_makeCurrent_12 ?_
  refine ag_ostore_n (L' := [some (.ref (bs + posC 8 o0)), some (.int x1), some (va_rf (p3.map (fun x => bs + posC 7 x)))]) dX10_makeCurrent_15 (by decide) rfl ?_
  refine ag_oload_n dX10_makeCurrent_16 rfl ?_
  refine ag_ifnull (tgt := 38) dX10_makeCurrent_17 (by decide) (fun eh5 => ?_) (fun a4 eh5 => ?_)
  · subst eh5
    refine ag_Lc (L' := [some (.ref (bs + posC 8 o0)), some (.int x1), some (.null)]) rfl ?_
    exact ag_vrep dX10_makeCurrent_38
  · subst eh5
    refine ag_chk (fun h5 => ?_)
    refine ag_Lc (L' := [some (.ref (bs + posC 8 o0)), some (.int x1), some (.ref (bs + posC 7 a4))]) rfl ?_
    refine ag_aload_n dX10_makeCurrent_20 rfl ?_
    refine ag_dup dX10_makeCurrent_21 rfl ?_
    refine gC_X10_switches ho0 fl_X10_93 dX10_makeCurrent_22 ?_
    refine ag_iconst (v := 1) dX10_makeCurrent_25 (by decide) ?_
    refine ag_iadd dX10_makeCurrent_26 ?_
    refine pC_X10_switches ho0 fl_X10_93 dX10_makeCurrent_27 ?_
    refine ag_ltV (fun V6 => ?_)
    refine ag_aload_n dX10_makeCurrent_30 rfl ?_
    refine ag_aload_n dX10_makeCurrent_31 rfl ?_
    refine gC_X10_store ho0 fl_X10_49 dX10_makeCurrent_32 ?_
    refine ag_bnd (fun p7 hp7 => ?_)
    refine ag_ivVe (c_X9_filterBy a4 0 h5 (by decide) hp7) vwC_D (vwC_at (kpC_7 _ h5)) rfl cs_X10_142 rfl rfl (Nat.le_of_ble_eq_true rfl) ⟨by decide, by decide⟩ ⟨Nat.zero_le _, Nat.zero_le _⟩ dX10_makeCurrent_35 ?_
    exact ag_vrep dX10_makeCurrent_38
