set_option maxRecDepth 100000 in
set_option maxHeartbeats 4000000 in
theorem c_X12_make {l : Launch} {D : va_G} {cy : Nat → ClassId} {bs : Nat} {V : HV} (o0 : Nat) (x1 : Int32) (x2 : Int32) (x3 : Int32) (x4 : Int32) (x5 : Int32) (x6 : Int32) (x7 : Bool) (ho0 : o0 < 1) {z : HV} (hz : f_X12_make o0 x1 x2 x3 x4 x5 x6 x7 V = some z) : CM l (aG 57 bs) D (tyL cy) (vwM cy bs) yX12_make cX12_make 8 none 0 0 tvV [.ref (bs + posM 10 o0), .int x1, .int x2, .int x3, .int x4, .int x5, .int x6, .int (b2i x7)] V ((), z) := by
  refine cm_of vwM_D (by decide +kernel) (own := RX12) rfl (Nat.le_of_ble_eq_true rfl) (L := [some (.ref (bs + posM 10 o0)), some (.int x1), some (.int x2), some (.int x3), some (.int x4), some (.int x5), some (.int x6), some (.int (b2i x7))]) rfl hz (fun Γ => ?_)
  unfold f_X12_make
  refine ag_aload_n dX12_make_0 rfl ?_
  refine gM_X12_cursor ho0 fl_X12_7 dX12_make_1 ?_
  refine ag_iload_n dX12_make_4 rfl ?_
  refine ag_iload_n dX12_make_5 rfl ?_
  refine ag_chk (fun h1 => ?_)
  refine sM_24 (by decide) h1 dX12_make_6 ?_
  refine ag_ltV (fun V2 => ?_)
  refine ag_aload_n dX12_make_7 rfl ?_
  refine gM_X12_base ho0 fl_X12_13 dX12_make_8 ?_
  refine ag_iload_n dX12_make_11 rfl ?_
  refine ag_iload_n dX12_make_12 rfl ?_
  refine ag_chk (fun h3 => ?_)
  refine sM_25 (by decide) h3 dX12_make_13 ?_
  refine ag_ltV (fun V4 => ?_)
  refine ag_aload_n dX12_make_14 rfl ?_
  refine gM_X12_top ho0 fl_X12_16 dX12_make_15 ?_
  refine ag_iload_n dX12_make_18 rfl ?_
  refine ag_iload dX12_make_19 rfl ?_
  refine ag_chk (fun h5 => ?_)
  refine sM_26 (by decide) h5 dX12_make_21 ?_
  refine ag_ltV (fun V6 => ?_)
  refine ag_aload_n dX12_make_22 rfl ?_
  refine gM_X12_perms ho0 fl_X12_19 dX12_make_23 ?_
  refine ag_iload_n dX12_make_26 rfl ?_
  refine ag_iload dX12_make_27 rfl ?_
  refine ag_chk (fun h7 => ?_)
  refine sM_27 (by decide) h7 dX12_make_29 ?_
  refine ag_ltV (fun V8 => ?_)
  refine ag_aload_n dX12_make_30 rfl ?_
  refine gM_X12_type ho0 fl_X12_22 dX12_make_31 ?_
  refine ag_iload_n dX12_make_34 rfl ?_
  refine ag_iload dX12_make_35 rfl ?_
  refine ag_chk (fun h9 => ?_)
  refine sM_28 (by decide) h9 dX12_make_37 ?_
  refine ag_ltV (fun V10 => ?_)
  refine ag_aload_n dX12_make_38 rfl ?_
  refine gM_X12_tag ho0 fl_X12_25 dX12_make_39 ?_
  refine ag_iload_n dX12_make_42 rfl ?_
  refine ag_iload dX12_make_43 rfl ?_
  refine ag_chk (fun h11 => ?_)
  refine sM_29 (x := x7) (by decide) h11 dX12_make_45 ?_
  refine ag_ltV (fun V12 => ?_)
  exact ag_vrep dX12_make_46
set_option maxRecDepth 100000 in
set_option maxHeartbeats 4000000 in
theorem c_X12_nothing {l : Launch} {D : va_G} {cy : Nat → ClassId} {bs : Nat} {V : HV} (o0 : Nat) (x1 : Int32) (ho0 : o0 < 1) {z : HV} (hz : f_X12_nothing o0 x1 V = some z) : CM l (aG 57 bs) D (tyL cy) (vwM cy bs) yX12_nothing cX12_nothing 2 none 1 27 tvV [.ref (bs + posM 10 o0), .int x1] V ((), z) := by
  refine cm_of vwM_D (by decide +kernel) (own := RX12) rfl (Nat.le_of_ble_eq_true rfl) (L := [some (.ref (bs + posM 10 o0)), some (.int x1)]) rfl hz (fun Γ => ?_)
  unfold f_X12_nothing
  refine ag_aload_n dX12_nothing_0 rfl ?_
  refine ag_iload_n dX12_nothing_1 rfl ?_
  refine ag_iconst (v := 0) dX12_nothing_2 (by decide) ?_
  refine ag_iconst (v := 0) dX12_nothing_3 (by decide) ?_
  refine ag_iconst (v := 0) dX12_nothing_4 (by decide) ?_
  refine ag_iconst (v := 0) dX12_nothing_5 (by decide) ?_
  refine ag_iconst (v := 0) dX12_nothing_6 (by decide) ?_
  refine ag_iconst (v := 0) dX12_nothing_7 (by decide) ?_
  refine ag_bnd (fun p1 hp1 => ?_)
  refine ag_ivVe (c_X12_make o0 x1 0 0 0 0 0 false ho0 hp1) vwM_D (vwM_at (kpM_10 _ ho0)) rfl cs_X12_250 rfl rfl (Nat.le_of_ble_eq_true rfl) ⟨by decide, by decide⟩ ⟨Nat.zero_le _, Nat.zero_le _⟩ dX12_nothing_8 ?_
  exact ag_vrep dX12_nothing_11
set_option maxRecDepth 100000 in
set_option maxHeartbeats 4000000 in
theorem c_X12_begins {l : Launch} {D : va_G} {cy : Nat → ClassId} {bs : Nat} {V : HV} (o0 : Nat) (ho0 : o0 < 1) {z : HV} (hz : f_X12_begins o0 V = some z) : CM l (aG 57 bs) D (tyL cy) (vwM cy bs) yX12_begins cX12_begins 2 none 2 48 tvV [.ref (bs + posM 10 o0)] V ((), z) := by
  refine cm_of vwM_D (by decide +kernel) (own := RX12) rfl (Nat.le_of_ble_eq_true rfl) (L := [some (.ref (bs + posM 10 o0)), none]) rfl hz (fun Γ => ?_)
  unfold f_X12_begins
  refine ag_aload_n dX12_begins_0 rfl ?_
  refine ag_iconst (v := 0) dX12_begins_1 (by decide) ?_
  refine pM_X12_booted (x := false) ho0 fl_X12_191 dX12_begins_2 ?_
  refine ag_ltV (fun V1 => ?_)
  refine ag_aload_n dX12_begins_5 rfl ?_
  refine ag_iconst (v := 0) dX12_begins_6 (by decide) ?_
  refine pM_X12_compartments ho0 fl_X12_195 dX12_begins_7 ?_
  refine ag_ltV (fun V2 => ?_)
  refine ag_aload_n dX12_begins_10 rfl ?_
  refine ag_iconst (v := 0) dX12_begins_11 (by decide) ?_
  refine pM_X12_threads ho0 fl_X12_198 dX12_begins_12 ?_
  refine ag_ltV (fun V3 => ?_)
  refine ag_aload_n dX12_begins_15 rfl ?_
  refine ag_iconst (v := 0) dX12_begins_16 (by decide) ?_
  refine pM_X12_time ho0 fl_X12_201 dX12_begins_17 ?_
  refine ag_ltV (fun V4 => ?_)
  refine ag_aload_n dX12_begins_20 rfl ?_
  refine ag_iconst (v := (-1)) dX12_begins_21 (by decide) ?_
  refine pM_X12_current ho0 fl_X12_204 dX12_begins_22 ?_
  refine ag_ltV (fun V5 => ?_)
  refine ag_aload_n dX12_begins_25 rfl ?_
  refine ag_iconst (v := 0) dX12_begins_26 (by decide) ?_
  refine pM_X12_faults ho0 fl_X12_207 dX12_begins_27 ?_
  refine ag_ltV (fun V6 => ?_)
  refine ag_aload_n dX12_begins_30 rfl ?_
  refine ag_iconst (v := 0) dX12_begins_31 (by decide) ?_
  refine pM_X12_calls ho0 fl_X12_210 dX12_begins_32 ?_
  refine ag_ltV (fun V7 => ?_)
  refine ag_aload_n dX12_begins_35 rfl ?_
  refine ag_iconst (v := 0) dX12_begins_36 (by decide) ?_
  refine pM_X12_services ho0 fl_X12_213 dX12_begins_37 ?_
  refine ag_ltV (fun V8 => ?_)
  refine ag_aload_n dX12_begins_40 rfl ?_
  refine ag_iconst (v := 0) dX12_begins_41 (by decide) ?_
  refine pM_X12_turns ho0 fl_X12_216 dX12_begins_42 ?_
  refine ag_ltV (fun V9 => ?_)
  refine ag_aload_n dX12_begins_45 rfl ?_
  refine ag_iconst (v := 0) dX12_begins_46 (by decide) ?_
  refine pM_X12_orders ho0 fl_X12_219 dX12_begins_47 ?_
  refine ag_ltV (fun V10 => ?_)
  refine ag_aload_n dX12_begins_50 rfl ?_
  refine ag_iconst (v := 0) dX12_begins_51 (by decide) ?_
  refine pM_X12_heapAt ho0 fl_X12_222 dX12_begins_52 ?_
  refine ag_ltV (fun V11 => ?_)
  refine ag_aload_n dX12_begins_55 rfl ?_
  refine ag_iconst (v := 0) dX12_begins_56 (by decide) ?_
  refine pM_X12_objects ho0 fl_X12_225 dX12_begins_57 ?_
  refine ag_ltV (fun V12 => ?_)
  refine ag_aload_n dX12_begins_60 rfl ?_
  refine ag_iconst (v := 0) dX12_begins_61 (by decide) ?_
  refine pM_X12_asked (x := false) ho0 fl_X12_228 dX12_begins_62 ?_
  refine ag_ltV (fun V13 => ?_)
  refine ag_aload_n dX12_begins_65 rfl ?_
  refine ag_iconst (v := (-1)) dX12_begins_66 (by decide) ?_
  refine pM_X12_sweeper ho0 fl_X12_231 dX12_begins_67 ?_
  refine ag_ltV (fun V14 => ?_)
  refine ag_aload_n dX12_begins_70 rfl ?_
  refine ag_iconst (v := 0) dX12_begins_71 (by decide) ?_
  refine pM_X12_sweeps ho0 fl_X12_234 dX12_begins_72 ?_
  refine ag_ltV (fun V15 => ?_)
  refine ag_aload_n dX12_begins_75 rfl ?_
  refine ag_iconst (v := 0) dX12_begins_76 (by decide) ?_
  refine pM_X12_waitingMany ho0 fl_X12_237 dX12_begins_77 ?_
  refine ag_ltV (fun V16 => ?_)
  refine ag_aload_n dX12_begins_80 rfl ?_
  refine ag_iconst (v := 0) dX12_begins_81 (by decide) ?_
  refine pM_X12_outFirst ho0 fl_X12_240 dX12_begins_82 ?_
  refine ag_ltV (fun V17 => ?_)
  refine ag_aload_n dX12_begins_85 rfl ?_
  refine ag_iconst (v := 0) dX12_begins_86 (by decide) ?_
  refine pM_X12_outMany ho0 fl_X12_243 dX12_begins_87 ?_
  refine ag_ltV (fun V18 => ?_)
  refine ag_iconst (v := 0) dX12_begins_90 (by decide) ?_
  refine ag_istore_n (L' := [some (.ref (bs + posM 10 o0)), some (.int 0)]) dX12_begins_91 (by decide) rfl ?_
  refine ag_jn1 (j := 111) (L1 := fun V21 => [some (.ref (bs + posM 10 o0)), none]) (st1 := fun V21 => []) (ws1 := fun V21 => vwM cy bs V21) (fun V21 => ?_) (fun k19 hk20 => ?_)
  · refine ag_iconst (v := 0) dX12_begins_111 (by decide) ?_
    refine ag_istore_n (L' := [some (.ref (bs + posM 10 o0)), some (.int 0)]) dX12_begins_112 (by decide) rfl ?_
    refine ag_jn1 (j := 140) (L1 := fun V24 => [some (.ref (bs + posM 10 o0)), none]) (st1 := fun V24 => []) (ws1 := fun V24 => vwM cy bs V24) (fun V24 => ?_) (fun k22 hk23 => ?_)
    · refine ag_iconst (v := 0) dX12_begins_140 (by decide) ?_
      refine ag_istore_n (L' := [some (.ref (bs + posM 10 o0)), some (.int 0)]) dX12_begins_141 (by decide) rfl ?_
      refine ag_jn1 (j := 160) (L1 := fun V27 => [some (.ref (bs + posM 10 o0)), none]) (st1 := fun V27 => []) (ws1 := fun V27 => vwM cy bs V27) (fun V27 => ?_) (fun k25 hk26 => ?_)
      · exact ag_vrep dX12_begins_160
      · refine ag_loop2 (F := f_X12_begins_L142 o0 k25) (L1 := fun v28 V29 => [some (.ref (bs + posM 10 o0)), some (.int v28)]) (st1 := fun v28 V29 => []) (ws1 := fun v28 V29 => vwM cy bs V29) (fun n30 ih31 v28 V29 => ?_) (fun _ _ => rfl) FU 0 V24
        rw [f_X12_begins_L142]
        refine ag_iload_n dX12_begins_142 rfl ?_
        refine ag_sipush (v := 600) dX12_begins_143 (by decide) ?_
        refine ag_icmp_ge (tgt := 160) dX12_begins_146 (by decide) (fun h32 => ?_) (fun h32 => ?_)
        · refine ag_drop [1] (L' := [some (.ref (bs + posM 10 o0)), none]) rfl ?_
          exact hk26 V29
        · refine ag_aload_n dX12_begins_149 rfl ?_
          refine ag_iload_n dX12_begins_150 rfl ?_
          refine ag_bnd (fun p33 hp33 => ?_)
          refine ag_ivVe (c_X12_nothing o0 v28 ho0 hp33) vwM_D (vwM_at (kpM_10 _ ho0)) rfl cs_X12_246 rfl rfl (Nat.le_of_ble_eq_true rfl) ⟨by decide, by decide⟩ ⟨Nat.zero_le _, Nat.zero_le _⟩ dX12_begins_151 ?_
          refine ag_iincL (L' := fun v34 => [some (.ref (bs + posM 10 o0)), some (.int v34)]) dX12_begins_154 (by decide) rfl (by decide) (fun _ => rfl) (fun v34 => ?_)
          refine ag_goto (tgt := 142) dX12_begins_157 (by decide) ?_
          exact ih31 v34 p33
    · refine ag_loop2 (F := f_X12_begins_L113  k22) (L1 := fun v35 V36 => [some (.ref (bs + posM 10 o0)), some (.int v35)]) (st1 := fun v35 V36 => []) (ws1 := fun v35 V36 => vwM cy bs V36) (fun n37 ih38 v35 V36 => ?_) (fun _ _ => rfl) FU 0 V21
      rw [f_X12_begins_L113]
      refine ag_iload_n dX12_begins_113 rfl ?_
      refine ag_sipush (v := 2048) dX12_begins_114 (by decide) ?_
      refine ag_icmp_ge (tgt := 140) dX12_begins_117 (by decide) (fun h39 => ?_) (fun h39 => ?_)
      · refine ag_drop [1] (L' := [some (.ref (bs + posM 10 o0)), none]) rfl ?_
        exact hk23 V36
      · refine ag_aload_n dX12_begins_120 rfl ?_
        refine gM_X12_tags ho0 fl_X12_182 dX12_begins_121 ?_
        refine ag_iload_n dX12_begins_124 rfl ?_
        refine ag_iconst (v := 0) dX12_begins_125 (by decide) ?_
        refine ag_chk (fun h40 => ?_)
        refine sM_22 (x := false) (by decide) h40 dX12_begins_126 ?_
        refine ag_ltV (fun V41 => ?_)
        refine ag_aload_n dX12_begins_127 rfl ?_
        refine gM_X12_revoked ho0 fl_X12_185 dX12_begins_128 ?_
        refine ag_iload_n dX12_begins_131 rfl ?_
        refine ag_iconst (v := 0) dX12_begins_132 (by decide) ?_
        refine ag_chk (fun h42 => ?_)
        refine sM_23 (x := false) (by decide) h42 dX12_begins_133 ?_
        refine ag_ltV (fun V43 => ?_)
        refine ag_iincL (L' := fun v44 => [some (.ref (bs + posM 10 o0)), some (.int v44)]) dX12_begins_134 (by decide) rfl (by decide) (fun _ => rfl) (fun v44 => ?_)
        refine ag_goto (tgt := 113) dX12_begins_137 (by decide) ?_
        exact ih38 v44 V43
  · refine ag_loop2 (F := f_X12_begins_L92  k19) (L1 := fun v45 V46 => [some (.ref (bs + posM 10 o0)), some (.int v45)]) (st1 := fun v45 V46 => []) (ws1 := fun v45 V46 => vwM cy bs V46) (fun n47 ih48 v45 V46 => ?_) (fun _ _ => rfl) FU 0 V18
    rw [f_X12_begins_L92]
    refine ag_iload_n dX12_begins_92 rfl ?_
    refine ag_ldc kc_X12_178 dX12_begins_93 ?_
    refine ag_icmp_ge (tgt := 111) dX12_begins_95 (by decide) (fun h49 => ?_) (fun h49 => ?_)
    · refine ag_drop [1] (L' := [some (.ref (bs + posM 10 o0)), none]) rfl ?_
      exact hk20 V46
    · refine ag_aload_n dX12_begins_98 rfl ?_
      refine gM_X12_memory ho0 fl_X12_179 dX12_begins_99 ?_
      refine ag_iload_n dX12_begins_102 rfl ?_
      refine ag_iconst (v := 0) dX12_begins_103 (by decide) ?_
      refine ag_chk (fun h50 => ?_)
      refine sM_21 (by decide) h50 dX12_begins_104 ?_
      refine ag_ltV (fun V51 => ?_)
      refine ag_iincL (L' := fun v52 => [some (.ref (bs + posM 10 o0)), some (.int v52)]) dX12_begins_105 (by decide) rfl (by decide) (fun _ => rfl) (fun v52 => ?_)
      refine ag_goto (tgt := 92) dX12_begins_108 (by decide) ?_
      exact ih48 v52 V51
set_option maxRecDepth 100000 in
set_option maxHeartbeats 4000000 in
theorem c_X12_number {l : Launch} {D : va_G} {cy : Nat → ClassId} {bs : Nat} {V : HV} (o0 : Nat) (x1 : Int32) (x2 : Int32) (ho0 : o0 < 1) {z : HV} (hz : f_X12_number o0 x1 x2 V = some z) : CM l (aG 57 bs) D (tyL cy) (vwM cy bs) yX12_number cX12_number 3 none 1 27 tvV [.ref (bs + posM 10 o0), .int x1, .int x2] V ((), z) := by
  refine cm_of vwM_D (by decide +kernel) (own := RX12) rfl (Nat.le_of_ble_eq_true rfl) (L := [some (.ref (bs + posM 10 o0)), some (.int x1), some (.int x2)]) rfl hz (fun Γ => ?_)
  unfold f_X12_number
  refine ag_aload_n dX12_number_0 rfl ?_
  refine ag_iload_n dX12_number_1 rfl ?_
  refine ag_iload_n dX12_number_2 rfl ?_
  refine ag_iconst (v := 0) dX12_number_3 (by decide) ?_
  refine ag_iconst (v := 0) dX12_number_4 (by decide) ?_
  refine ag_iconst (v := 0) dX12_number_5 (by decide) ?_
  refine ag_iconst (v := 0) dX12_number_6 (by decide) ?_
  refine ag_iconst (v := 0) dX12_number_7 (by decide) ?_
  refine ag_bnd (fun p1 hp1 => ?_)
  refine ag_ivVe (c_X12_make o0 x1 x2 0 0 0 0 false ho0 hp1) vwM_D (vwM_at (kpM_10 _ ho0)) rfl cs_X12_250 rfl rfl (Nat.le_of_ble_eq_true rfl) ⟨by decide, by decide⟩ ⟨Nat.zero_le _, Nat.zero_le _⟩ dX12_number_8 ?_
  exact ag_vrep dX12_number_11
set_option maxRecDepth 100000 in
set_option maxHeartbeats 4000000 in
theorem c_X12_copy {l : Launch} {D : va_G} {cy : Nat → ClassId} {bs : Nat} {V : HV} (o0 : Nat) (x1 : Int32) (x2 : Int32) (ho0 : o0 < 1) {z : HV} (hz : f_X12_copy o0 x1 x2 V = some z) : CM l (aG 57 bs) D (tyL cy) (vwM cy bs) yX12_copy cX12_copy 3 none 1 27 tvV [.ref (bs + posM 10 o0), .int x1, .int x2] V ((), z) := by
  refine cm_of vwM_D (by decide +kernel) (own := RX12) rfl (Nat.le_of_ble_eq_true rfl) (L := [some (.ref (bs + posM 10 o0)), some (.int x1), some (.int x2)]) rfl hz (fun Γ => ?_)
  unfold f_X12_copy
  refine ag_aload_n dX12_copy_0 rfl ?_
  refine ag_iload_n dX12_copy_1 rfl ?_
  refine ag_aload_n dX12_copy_2 rfl ?_
  refine gM_X12_cursor ho0 fl_X12_7 dX12_copy_3 ?_
  refine ag_iload_n dX12_copy_6 rfl ?_
  refine ag_chk (fun h1 => ?_)
  refine aM_24 (by decide) h1 dX12_copy_7 ?_
  refine ag_aload_n dX12_copy_8 rfl ?_
  refine gM_X12_base ho0 fl_X12_13 dX12_copy_9 ?_
  refine ag_iload_n dX12_copy_12 rfl ?_
  refine ag_chk (fun h2 => ?_)
  refine aM_25 (by decide) h2 dX12_copy_13 ?_
  refine ag_aload_n dX12_copy_14 rfl ?_
  refine gM_X12_top ho0 fl_X12_16 dX12_copy_15 ?_
  refine ag_iload_n dX12_copy_18 rfl ?_
  refine ag_chk (fun h3 => ?_)
  refine aM_26 (by decide) h3 dX12_copy_19 ?_
  refine ag_aload_n dX12_copy_20 rfl ?_
  refine gM_X12_perms ho0 fl_X12_19 dX12_copy_21 ?_
  refine ag_iload_n dX12_copy_24 rfl ?_
  refine ag_chk (fun h4 => ?_)
  refine aM_27 (by decide) h4 dX12_copy_25 ?_
  refine ag_aload_n dX12_copy_26 rfl ?_
  refine gM_X12_type ho0 fl_X12_22 dX12_copy_27 ?_
  refine ag_iload_n dX12_copy_30 rfl ?_
  refine ag_chk (fun h5 => ?_)
  refine aM_28 (by decide) h5 dX12_copy_31 ?_
  refine ag_aload_n dX12_copy_32 rfl ?_
  refine gM_X12_tag ho0 fl_X12_25 dX12_copy_33 ?_
  refine ag_iload_n dX12_copy_36 rfl ?_
  refine ag_chk (fun h6 => ?_)
  refine aM_29 (by decide) h6 dX12_copy_37 ?_
  refine ag_bnd (fun p7 hp7 => ?_)
  refine ag_ivVe (c_X12_make o0 x2 (V 2400 0 (x1).toNatClampNeg) (V 2500 0 (x1).toNatClampNeg) (V 2600 0 (x1).toNatClampNeg) (V 2700 0 (x1).toNatClampNeg) (V 2800 0 (x1).toNatClampNeg) (i2b (V 2900 0 (x1).toNatClampNeg)) ho0 hp7) vwM_D (vwM_at (kpM_10 _ ho0)) rfl cs_X12_250 rfl rfl (Nat.le_of_ble_eq_true rfl) ⟨by decide, by decide⟩ ⟨Nat.zero_le _, Nat.zero_le _⟩ dX12_copy_38 ?_
  exact ag_vrep dX12_copy_41
set_option maxRecDepth 100000 in
set_option maxHeartbeats 4000000 in
theorem c_X12_plain {l : Launch} {D : va_G} {cy : Nat → ClassId} {bs : Nat} {V : HV} (x0 : Int32) {z : Int64} (hz : f_X12_plain x0 = z) : CM l (aG 57 bs) D (tyL cy) (vwM cy bs) yX12_plain cX12_plain 1 (some .long) 0 0 tvJ [.int x0] V (z, V) := by
  refine cm_of vwM_D (by decide +kernel) (own := RX12) rfl (Nat.le_of_ble_eq_true rfl) (L := [some (.int x0)]) rfl hz (fun Γ => ?_)
  unfold f_X12_plain
  refine ag_iload_n dX12_plain_0 rfl ?_
  refine ag_i2l dX12_plain_1 ?_
  refine ag_ldc2 kc_X12_254 dX12_plain_2 ?_
  refine ag_land dX12_plain_5 ?_
  exact ag_lrp dX12_plain_6
set_option maxRecDepth 100000 in
set_option maxHeartbeats 4000000 in
theorem c_X12_isGone {l : Launch} {D : va_G} {cy : Nat → ClassId} {bs : Nat} {V : HV} (o0 : Nat) (x1 : Int32) (ho0 : o0 < 1) {z : Bool} (hz : f_X12_isGone o0 x1 V = some z) : CM l (aG 57 bs) D (tyL cy) (vwM cy bs) yX12_isGone cX12_isGone 2 (some .boolean) 0 0 tvZ [.ref (bs + posM 10 o0), .int x1] V (z, V) := by
  refine cm_of vwM_D (by decide +kernel) (own := RX12) rfl (Nat.le_of_ble_eq_true rfl) (L := [some (.ref (bs + posM 10 o0)), some (.int x1)]) rfl hz (fun Γ => ?_)
  unfold f_X12_isGone
  refine ag_aload_n dX12_isGone_0 rfl ?_
  refine gM_X12_perms ho0 fl_X12_19 dX12_isGone_1 ?_
  refine ag_iload_n dX12_isGone_4 rfl ?_
  refine ag_chk (fun h1 => ?_)
  refine aM_27 (by decide) h1 dX12_isGone_5 ?_
  refine ag_bipush (v := 32) dX12_isGone_6 (by decide) ?_
  refine ag_iand dX12_isGone_8 ?_
  refine ag_if_ne (tgt := 55) dX12_isGone_9 (by decide) (fun h2 => ?_) (fun h2 => ?_)
  · refine ag_iconst (v := 0) dX12_isGone_55 (by decide) ?_
    exact ag_zrpp (x := false) dX12_isGone_56
  · refine ag_aload_n dX12_isGone_12 rfl ?_
    refine gM_X12_base ho0 fl_X12_13 dX12_isGone_13 ?_
    refine ag_iload_n dX12_isGone_16 rfl ?_
    refine ag_chk (fun h3 => ?_)
    refine aM_25 (by decide) h3 dX12_isGone_17 ?_
    refine ag_if_lt (tgt := 55) dX12_isGone_18 (by decide) (fun h4 => ?_) (fun h4 => ?_)
    · refine ag_iconst (v := 0) dX12_isGone_55 (by decide) ?_
      exact ag_zrpp (x := false) dX12_isGone_56
    · refine ag_aload_n dX12_isGone_21 rfl ?_
      refine gM_X12_base ho0 fl_X12_13 dX12_isGone_22 ?_
      refine ag_iload_n dX12_isGone_25 rfl ?_
      refine ag_chk (fun h5 => ?_)
      refine aM_25 (by decide) h5 dX12_isGone_26 ?_
      refine ag_aload_n dX12_isGone_27 rfl ?_
      refine gM_X12_size ho0 fl_X12_175 dX12_isGone_28 ?_
      refine ag_icmp_ge (tgt := 55) dX12_isGone_31 (by decide) (fun h6 => ?_) (fun h6 => ?_)
      · refine ag_iconst (v := 0) dX12_isGone_55 (by decide) ?_
        exact ag_zrpp (x := false) dX12_isGone_56
      · refine ag_aload_n dX12_isGone_34 rfl ?_
        refine gM_X12_revoked ho0 fl_X12_185 dX12_isGone_35 ?_
        refine ag_aload_n dX12_isGone_38 rfl ?_
        refine gM_X12_base ho0 fl_X12_13 dX12_isGone_39 ?_
        refine ag_iload_n dX12_isGone_42 rfl ?_
        refine ag_chk (fun h7 => ?_)
        refine aM_25 (by decide) h7 dX12_isGone_43 ?_
        refine ag_bipush (v := 16) dX12_isGone_44 (by decide) ?_
        refine ag_idiv dX12_isGone_46 (by decide) ?_
        refine ag_chk (fun h8 => ?_)
        refine aM_23 (by decide) h8 dX12_isGone_47 ?_
        refine ag_bif_eq (tgt := 55) dX12_isGone_48 (by decide) (fun h9 => ?_) (fun h9 => ?_)
        · refine ag_iconst (v := 0) dX12_isGone_55 (by decide) ?_
          exact ag_zrpp (x := false) dX12_isGone_56
        · refine ag_iconst (v := 1) dX12_isGone_51 (by decide) ?_
          refine ag_goto (tgt := 56) dX12_isGone_52 (by decide) ?_
          exact ag_zrpp (x := true) dX12_isGone_56
set_option maxRecDepth 100000 in
set_option maxHeartbeats 4000000 in
theorem c_X12_filter {l : Launch} {D : va_G} {cy : Nat → ClassId} {bs : Nat} {V : HV} (o0 : Nat) (x1 : Int32) (ho0 : o0 < 1) {z : HV} (hz : f_X12_filter o0 x1 V = some z) : CM l (aG 57 bs) D (tyL cy) (vwM cy bs) yX12_filter cX12_filter 2 none 1 21 tvV [.ref (bs + posM 10 o0), .int x1] V ((), z) := by
  refine cm_of vwM_D (by decide +kernel) (own := RX12) rfl (Nat.le_of_ble_eq_true rfl) (L := [some (.ref (bs + posM 10 o0)), some (.int x1)]) rfl hz (fun Γ => ?_)
  unfold f_X12_filter
  refine ag_aload_n dX12_filter_0 rfl ?_
  refine gM_X12_tag ho0 fl_X12_25 dX12_filter_1 ?_
  refine ag_iload_n dX12_filter_4 rfl ?_
  refine ag_aload_n dX12_filter_5 rfl ?_
  refine gM_X12_tag ho0 fl_X12_25 dX12_filter_6 ?_
  refine ag_iload_n dX12_filter_9 rfl ?_
  refine ag_chk (fun h1 => ?_)
  refine aM_29 (by decide) h1 dX12_filter_10 ?_
  refine ag_jn1 (j := 27) (L1 := fun v2 => [some (.ref (bs + posM 10 o0)), some (.int x1)]) (st1 := fun v2 => [.int (b2i v2), .int x1, .ref (bs + posM 29 0)]) (ws1 := fun v2 => vwM cy bs V) (fun v2 => ?_) (fun k3 hk4 => ?_)
  · refine ag_chk (fun h5 => ?_)
    refine sM_29 (x := v2) (by decide) h5 dX12_filter_27 ?_
    refine ag_ltV (fun V6 => ?_)
    exact ag_vrep dX12_filter_28
  · refine ag_jn0 (j := 26) (L1 := [some (.ref (bs + posM 10 o0)), some (.int x1)]) (st1 := [.int x1, .ref (bs + posM 29 0)]) (ws1 := vwM cy bs V) (?_) (fun k7 hk8 => ?_)
    · refine ag_iconst (v := 0) dX12_filter_26 (by decide) ?_
      exact hk4 false
    · refine ag_bif_eq (tgt := 26) dX12_filter_11 (by decide) (fun h9 => ?_) (fun h9 => ?_)
      · exact hk8
      · refine ag_aload_n dX12_filter_14 rfl ?_
        refine ag_iload_n dX12_filter_15 rfl ?_
        refine ag_bnd (fun p10 hp10 => ?_)
        refine ag_ivZp (c_X12_isGone o0 x1 ho0 hp10) vwM_D (vwM_at (kpM_10 _ ho0)) rfl cs_X12_256 rfl rfl (Nat.le_of_ble_eq_true rfl) ⟨by decide, by decide⟩ ⟨Nat.zero_le _, Nat.zero_le _⟩ dX12_filter_16 ?_
        refine ag_bif_ne (tgt := 26) dX12_filter_19 (by decide) (fun h11 => ?_) (fun h11 => ?_)
        · exact hk8
        · refine ag_iconst (v := 1) dX12_filter_22 (by decide) ?_
          refine ag_goto (tgt := 27) dX12_filter_23 (by decide) ?_
          exact hk4 true
set_option maxRecDepth 100000 in
set_option maxHeartbeats 4000000 in
theorem c_X12_reg {l : Launch} {D : va_G} {cy : Nat → ClassId} {bs : Nat} {V : HV} (x0 : Int32) (x1 : Int32) {z : Int32} (hz : f_X12_reg x0 x1 = z) : CM l (aG 57 bs) D (tyL cy) (vwM cy bs) yX12_reg cX12_reg 2 (some .int) 0 0 tvI [.int x0, .int x1] V (z, V) := by
  refine cm_of vwM_D (by decide +kernel) (own := RX12) rfl (Nat.le_of_ble_eq_true rfl) (L := [some (.int x0), some (.int x1)]) rfl hz (fun Γ => ?_)
  unfold f_X12_reg
  refine ag_bipush (v := 17) dX12_reg_0 (by decide) ?_
  refine ag_iload_n dX12_reg_2 rfl ?_
  refine ag_imul dX12_reg_3 ?_
  refine ag_iload_n dX12_reg_4 rfl ?_
  refine ag_iadd dX12_reg_5 ?_
  exact ag_irp dX12_reg_6
set_option maxRecDepth 100000 in
set_option maxHeartbeats 4000000 in
theorem c_X12_frame {l : Launch} {D : va_G} {cy : Nat → ClassId} {bs : Nat} {V : HV} (x0 : Int32) (x1 : Int32) (x2 : Int32) {z : Int32} (hz : f_X12_frame x0 x1 x2 = z) : CM l (aG 57 bs) D (tyL cy) (vwM cy bs) yX12_frame cX12_frame 3 (some .int) 0 0 tvI [.int x0, .int x1, .int x2] V (z, V) := by
  refine cm_of vwM_D (by decide +kernel) (own := RX12) rfl (Nat.le_of_ble_eq_true rfl) (L := [some (.int x0), some (.int x1), some (.int x2)]) rfl hz (fun Γ => ?_)
  unfold f_X12_frame
  refine ag_bipush (v := 102) dX12_frame_0 (by decide) ?_
  refine ag_bipush (v := 80) dX12_frame_2 (by decide) ?_
  refine ag_iload_n dX12_frame_4 rfl ?_
  refine ag_imul dX12_frame_5 ?_
  refine ag_iadd dX12_frame_6 ?_
  refine ag_iconst (v := 5) dX12_frame_7 (by decide) ?_
  refine ag_iload_n dX12_frame_8 rfl ?_
  refine ag_imul dX12_frame_9 ?_
  refine ag_iadd dX12_frame_10 ?_
  refine ag_iload_n dX12_frame_11 rfl ?_
  refine ag_iadd dX12_frame_12 ?_
  exact ag_irp dX12_frame_13
set_option maxRecDepth 100000 in
set_option maxHeartbeats 4000000 in
theorem c_X12_refuses {l : Launch} {D : va_G} {cy : Nat → ClassId} {bs : Nat} {V : HV} (o0 : Nat) (x1 : Int32) (x2 : Int32) (x3 : Int32) (x4 : Int32) (ho0 : o0 < 1) {z : Int32} (hz : f_X12_refuses o0 x1 x2 x3 x4 V = some z) : CM l (aG 57 bs) D (tyL cy) (vwM cy bs) yX12_refuses cX12_refuses 5 (some .int) 1 20 tvI [.ref (bs + posM 10 o0), .int x1, .int x2, .int x3, .int x4] V (z, V) := by
  refine cm_of vwM_D (by decide +kernel) (own := RX12) rfl (Nat.le_of_ble_eq_true rfl) (L := [some (.ref (bs + posM 10 o0)), some (.int x1), some (.int x2), some (.int x3), some (.int x4)]) rfl hz (fun Γ => ?_)
  unfold f_X12_refuses
  refine ag_aload_n dX12_refuses_0 rfl ?_
  refine gM_X12_tag ho0 fl_X12_25 dX12_refuses_1 ?_
  refine ag_iload_n dX12_refuses_4 rfl ?_
  refine ag_chk (fun h1 => ?_)
  refine aM_29 (by decide) h1 dX12_refuses_5 ?_
  refine ag_bif_ne (tgt := 11) dX12_refuses_6 (by decide) (fun h2 => ?_) (fun h2 => ?_)
  · refine ag_aload_n dX12_refuses_11 rfl ?_
    refine gM_X12_type ho0 fl_X12_22 dX12_refuses_12 ?_
    refine ag_iload_n dX12_refuses_15 rfl ?_
    refine ag_chk (fun h3 => ?_)
    refine aM_28 (by decide) h3 dX12_refuses_16 ?_
    refine ag_if_eq (tgt := 22) dX12_refuses_17 (by decide) (fun h4 => ?_) (fun h4 => ?_)
    · refine ag_aload_n dX12_refuses_22 rfl ?_
      refine gM_X12_perms ho0 fl_X12_19 dX12_refuses_23 ?_
      refine ag_iload_n dX12_refuses_26 rfl ?_
      refine ag_chk (fun h5 => ?_)
      refine aM_27 (by decide) h5 dX12_refuses_27 ?_
      refine ag_iload_n dX12_refuses_28 rfl ?_
      refine ag_iand dX12_refuses_29 ?_
      refine ag_iload_n dX12_refuses_30 rfl ?_
      refine ag_icmp_eq (tgt := 36) dX12_refuses_31 (by decide) (fun h6 => ?_) (fun h6 => ?_)
      · refine ag_iload_n dX12_refuses_36 rfl ?_
        refine ag_isJp (c_X12_plain x3  rfl) vwM_D cs_X12_260 rfl rfl (Nat.le_of_ble_eq_true rfl) ⟨by decide, by decide⟩ ⟨Nat.zero_le _, Nat.zero_le _⟩ dX12_refuses_37 ?_
        refine ag_ltJ (fun v7 => ?_)
        refine ag_aload_n dX12_refuses_40 rfl ?_
        refine gM_X12_base ho0 fl_X12_13 dX12_refuses_41 ?_
        refine ag_iload_n dX12_refuses_44 rfl ?_
        refine ag_chk (fun h8 => ?_)
        refine aM_25 (by decide) h8 dX12_refuses_45 ?_
        refine ag_isJp (c_X12_plain (V 2500 0 (x1).toNatClampNeg)  rfl) vwM_D cs_X12_260 rfl rfl (Nat.le_of_ble_eq_true rfl) ⟨by decide, by decide⟩ ⟨Nat.zero_le _, Nat.zero_le _⟩ dX12_refuses_46 ?_
        refine ag_ltJ (fun v9 => ?_)
        refine ag_lcmp dX12_refuses_49 ?_
        refine ag_if_lt (tgt := 74) dX12_refuses_50 (by decide) (fun h10 => ?_) (fun h10 => ?_)
        · refine ag_iconst (v := 4) dX12_refuses_74 (by decide) ?_
          exact ag_irpp dX12_refuses_75
        · refine ag_iload_n dX12_refuses_53 rfl ?_
          refine ag_isJp (c_X12_plain x3  rfl) vwM_D cs_X12_260 rfl rfl (Nat.le_of_ble_eq_true rfl) ⟨by decide, by decide⟩ ⟨Nat.zero_le _, Nat.zero_le _⟩ dX12_refuses_54 ?_
          refine ag_ltJ (fun v11 => ?_)
          refine ag_iload dX12_refuses_57 rfl ?_
          refine ag_i2l dX12_refuses_59 ?_
          refine ag_ladd dX12_refuses_60 ?_
          refine ag_aload_n dX12_refuses_61 rfl ?_
          refine gM_X12_top ho0 fl_X12_16 dX12_refuses_62 ?_
          refine ag_iload_n dX12_refuses_65 rfl ?_
          refine ag_chk (fun h12 => ?_)
          refine aM_26 (by decide) h12 dX12_refuses_66 ?_
          refine ag_isJp (c_X12_plain (V 2600 0 (x1).toNatClampNeg)  rfl) vwM_D cs_X12_260 rfl rfl (Nat.le_of_ble_eq_true rfl) ⟨by decide, by decide⟩ ⟨Nat.zero_le _, Nat.zero_le _⟩ dX12_refuses_67 ?_
          refine ag_ltJ (fun v13 => ?_)
          refine ag_lcmp dX12_refuses_70 ?_
          refine ag_if_le (tgt := 76) dX12_refuses_71 (by decide) (fun h14 => ?_) (fun h14 => ?_)
          · refine ag_iload_n dX12_refuses_76 rfl ?_
            refine ag_iload dX12_refuses_77 rfl ?_
            refine ag_chk (fun h15 => ?_)
            refine ag_irem dX12_refuses_79 h15 ?_
            refine ag_dv (j := 88) (L1 := fun _ => [some (.ref (bs + posM 10 o0)), some (.int x1), some (.int x2), some (.int x3), some (.int x4)]) (st1 := fun v16 => [.int v16]) (ws1 := fun _ => vwM cy bs V) (fun v16 => ?_) (fun k18 hk17 => ?_)
            · exact ag_irpp dX12_refuses_88
            · refine ag_if_eq_v (tgt := 87) dX12_refuses_80 (by decide) (fun h19 => ?_) (fun h19 => ?_)
              · refine ag_iconst (v := 0) dX12_refuses_87 (by decide) ?_
                exact hk17 0
              · refine ag_iconst (v := 5) dX12_refuses_83 (by decide) ?_
                refine ag_goto (tgt := 88) dX12_refuses_84 (by decide) ?_
                exact hk17 5
          · refine ag_iconst (v := 4) dX12_refuses_74 (by decide) ?_
            exact ag_irpp dX12_refuses_75
      · refine ag_iconst (v := 3) dX12_refuses_34 (by decide) ?_
        exact ag_irpp dX12_refuses_35
    · refine ag_iconst (v := 2) dX12_refuses_20 (by decide) ?_
      exact ag_irpp dX12_refuses_21
  · refine ag_iconst (v := 1) dX12_refuses_9 (by decide) ?_
    exact ag_irpp dX12_refuses_10
set_option maxRecDepth 100000 in
set_option maxHeartbeats 4000000 in
theorem c_X12_get {l : Launch} {D : va_G} {cy : Nat → ClassId} {bs : Nat} {V : HV} (o0 : Nat) (x1 : Int32) (x2 : Int32) (ho0 : o0 < 1) {z : Int32} (hz : f_X12_get o0 x1 x2 V = some z) : CM l (aG 57 bs) D (tyL cy) (vwM cy bs) yX12_get cX12_get 5 (some .int) 0 0 tvI [.ref (bs + posM 10 o0), .int x1, .int x2] V (z, V) := by
  refine cm_of vwM_D (by decide +kernel) (own := RX12) rfl (Nat.le_of_ble_eq_true rfl) (L := [some (.ref (bs + posM 10 o0)), some (.int x1), some (.int x2), none, none]) rfl hz (fun Γ => ?_)
  unfold f_X12_get
  refine ag_iconst (v := 0) dX12_get_0 (by decide) ?_
  refine ag_istore_n (L' := [some (.ref (bs + posM 10 o0)), some (.int x1), some (.int x2), some (.int 0), none]) dX12_get_1 (by decide) rfl ?_
  refine ag_iload_n dX12_get_2 rfl ?_
  refine ag_iconst (v := 1) dX12_get_3 (by decide) ?_
  refine ag_isub dX12_get_4 ?_
  refine ag_ltI (fun v1 => ?_)
  refine ag_istore (L' := [some (.ref (bs + posM 10 o0)), some (.int x1), some (.int x2), some (.int 0), some (.int v1)]) dX12_get_5 (by decide) rfl ?_
  refine ag_jn1 (j := 37) (L1 := fun v4 => [some (.ref (bs + posM 10 o0)), some (.int x1), some (.int x2), some (.int v4), none]) (st1 := fun v4 => []) (ws1 := fun v4 => vwM cy bs V) (fun v4 => ?_) (fun k2 hk3 => ?_)
  · refine ag_iload_n dX12_get_37 rfl ?_
    exact ag_irpp dX12_get_38
  · refine ag_loop2 (F := f_X12_get_L7 x1 V k2) (L1 := fun v5 v6 => [some (.ref (bs + posM 10 o0)), some (.int x1), some (.int x2), some (.int v5), some (.int v6)]) (st1 := fun v5 v6 => []) (ws1 := fun v5 v6 => vwM cy bs V) (fun n7 ih8 v5 v6 => ?_) (fun _ _ => rfl) FU 0 v1
    rw [f_X12_get_L7]
    refine ag_iload dX12_get_7 rfl ?_
    refine ag_if_lt (tgt := 37) dX12_get_9 (by decide) (fun h9 => ?_) (fun h9 => ?_)
    · refine ag_drop [4] (L' := [some (.ref (bs + posM 10 o0)), some (.int x1), some (.int x2), some (.int v5), none]) rfl ?_
      exact hk3 v5
    · refine ag_iload_n dX12_get_12 rfl ?_
      refine ag_bipush (v := 8) dX12_get_13 (by decide) ?_
      refine ag_ishl dX12_get_15 ?_
      refine ag_aload_n dX12_get_16 rfl ?_
      refine gM_X12_memory ho0 fl_X12_179 dX12_get_17 ?_
      refine ag_iload_n dX12_get_20 rfl ?_
      refine ag_iload dX12_get_21 rfl ?_
      refine ag_iadd dX12_get_23 ?_
      refine ag_chk (fun h10 => ?_)
      refine aM_21 (by decide) h10 dX12_get_24 ?_
      refine ag_sipush (v := 255) dX12_get_25 (by decide) ?_
      refine ag_iand dX12_get_28 ?_
      refine ag_ior dX12_get_29 ?_
      refine ag_ltI (fun v11 => ?_)
      refine ag_istore_n (L' := [some (.ref (bs + posM 10 o0)), some (.int x1), some (.int x2), some (.int v11), some (.int v6)]) dX12_get_30 (by decide) rfl ?_
      refine ag_iincL (L' := fun v12 => [some (.ref (bs + posM 10 o0)), some (.int x1), some (.int x2), some (.int v11), some (.int v12)]) dX12_get_31 (by decide) rfl (by decide) (fun _ => rfl) (fun v12 => ?_)
      refine ag_goto (tgt := 7) dX12_get_34 (by decide) ?_
      exact ih8 v11 v12
set_option maxRecDepth 100000 in
set_option maxHeartbeats 4000000 in
theorem c_X12_put {l : Launch} {D : va_G} {cy : Nat → ClassId} {bs : Nat} {V : HV} (o0 : Nat) (x1 : Int32) (x2 : Int32) (x3 : Int32) (ho0 : o0 < 1) {z : HV} (hz : f_X12_put o0 x1 x2 x3 V = some z) : CM l (aG 57 bs) D (tyL cy) (vwM cy bs) yX12_put cX12_put 5 none 0 0 tvV [.ref (bs + posM 10 o0), .int x1, .int x2, .int x3] V ((), z) := by
  refine cm_of vwM_D (by decide +kernel) (own := RX12) rfl (Nat.le_of_ble_eq_true rfl) (L := [some (.ref (bs + posM 10 o0)), some (.int x1), some (.int x2), some (.int x3), none]) rfl hz (fun Γ => ?_)
  unfold f_X12_put
  refine ag_iconst (v := 0) dX12_put_0 (by decide) ?_
  refine ag_istore (L' := [some (.ref (bs + posM 10 o0)), some (.int x1), some (.int x2), some (.int x3), some (.int 0)]) dX12_put_1 (by decide) rfl ?_
  refine ag_jn1 (j := 32) (L1 := fun V3 => [some (.ref (bs + posM 10 o0)), some (.int x1), some (.int x2), some (.int x3), none]) (st1 := fun V3 => []) (ws1 := fun V3 => vwM cy bs V3) (fun V3 => ?_) (fun k1 hk2 => ?_)
  · exact ag_vrep dX12_put_32
  · refine ag_loop2 (F := f_X12_put_L3 x1 x2 x3 k1) (L1 := fun v4 V5 => [some (.ref (bs + posM 10 o0)), some (.int x1), some (.int x2), some (.int x3), some (.int v4)]) (st1 := fun v4 V5 => []) (ws1 := fun v4 V5 => vwM cy bs V5) (fun n6 ih7 v4 V5 => ?_) (fun _ _ => rfl) FU 0 V
    rw [f_X12_put_L3]
    refine ag_iload dX12_put_3 rfl ?_
    refine ag_iload_n dX12_put_5 rfl ?_
    refine ag_icmp_ge (tgt := 32) dX12_put_6 (by decide) (fun h8 => ?_) (fun h8 => ?_)
    · refine ag_drop [4] (L' := [some (.ref (bs + posM 10 o0)), some (.int x1), some (.int x2), some (.int x3), none]) rfl ?_
      exact hk2 V5
    · refine ag_aload_n dX12_put_9 rfl ?_
      refine gM_X12_memory ho0 fl_X12_179 dX12_put_10 ?_
      refine ag_iload_n dX12_put_13 rfl ?_
      refine ag_iload dX12_put_14 rfl ?_
      refine ag_iadd dX12_put_16 ?_
      refine ag_iload_n dX12_put_17 rfl ?_
      refine ag_bipush (v := 8) dX12_put_18 (by decide) ?_
      refine ag_iload dX12_put_20 rfl ?_
      refine ag_imul dX12_put_22 ?_
      refine ag_ishr dX12_put_23 ?_
      refine ag_i2b dX12_put_24 ?_
      refine ag_chk (fun h9 => ?_)
      refine sM_21 (by decide) h9 dX12_put_25 ?_
      refine ag_ltV (fun V10 => ?_)
      refine ag_iincL (L' := fun v11 => [some (.ref (bs + posM 10 o0)), some (.int x1), some (.int x2), some (.int x3), some (.int v11)]) dX12_put_26 (by decide) rfl (by decide) (fun _ => rfl) (fun v11 => ?_)
      refine ag_goto (tgt := 3) dX12_put_29 (by decide) ?_
      exact ih7 v11 V10
set_option maxRecDepth 100000 in
set_option maxHeartbeats 4000000 in
theorem c_X12_getCapability {l : Launch} {D : va_G} {cy : Nat → ClassId} {bs : Nat} {V : HV} (o0 : Nat) (x1 : Int32) (x2 : Int32) (ho0 : o0 < 1) {z : HV} (hz : f_X12_getCapability o0 x1 x2 V = some z) : CM l (aG 57 bs) D (tyL cy) (vwM cy bs) yX12_getCapability cX12_getCapability 4 none 1 27 tvV [.ref (bs + posM 10 o0), .int x1, .int x2] V ((), z) := by
  refine cm_of vwM_D (by decide +kernel) (own := RX12) rfl (Nat.le_of_ble_eq_true rfl) (L := [some (.ref (bs + posM 10 o0)), some (.int x1), some (.int x2), none]) rfl hz (fun Γ => ?_)
  unfold f_X12_getCapability
  refine ag_aload_n dX12_getCapability_0 rfl ?_
  refine ag_iload_n dX12_getCapability_1 rfl ?_
  refine ag_bipush (v := 12) dX12_getCapability_2 (by decide) ?_
  refine ag_iadd dX12_getCapability_4 ?_
  refine ag_iconst (v := 4) dX12_getCapability_5 (by decide) ?_
  refine ag_bnd (fun p1 hp1 => ?_)
  refine ag_ivIp (c_X12_get o0 (x1 + 12) 4 ho0 hp1) vwM_D (vwM_at (kpM_10 _ ho0)) rfl cs_X12_264 rfl rfl (Nat.le_of_ble_eq_true rfl) ⟨by decide, by decide⟩ ⟨Nat.zero_le _, Nat.zero_le _⟩ dX12_getCapability_6 ?_
  refine ag_istore_n (L' := [some (.ref (bs + posM 10 o0)), some (.int x1), some (.int x2), some (.int p1)]) dX12_getCapability_9 (by decide) rfl ?_
  refine ag_aload_n dX12_getCapability_10 rfl ?_
  refine ag_iload_n dX12_getCapability_11 rfl ?_
  refine ag_aload_n dX12_getCapability_12 rfl ?_
  refine ag_iload_n dX12_getCapability_13 rfl ?_
  refine ag_iconst (v := 4) dX12_getCapability_14 (by decide) ?_
  refine ag_bnd (fun p2 hp2 => ?_)
  refine ag_ivIp (c_X12_get o0 x1 4 ho0 hp2) vwM_D (vwM_at (kpM_10 _ ho0)) rfl cs_X12_264 rfl rfl (Nat.le_of_ble_eq_true rfl) ⟨by decide, by decide⟩ ⟨Nat.zero_le _, Nat.zero_le _⟩ dX12_getCapability_15 ?_
  refine ag_aload_n dX12_getCapability_18 rfl ?_
  refine ag_iload_n dX12_getCapability_19 rfl ?_
  refine ag_iconst (v := 4) dX12_getCapability_20 (by decide) ?_
  refine ag_iadd dX12_getCapability_21 ?_
  refine ag_iconst (v := 4) dX12_getCapability_22 (by decide) ?_
  refine ag_bnd (fun p3 hp3 => ?_)
  refine ag_ivIp (c_X12_get o0 (x1 + 4) 4 ho0 hp3) vwM_D (vwM_at (kpM_10 _ ho0)) rfl cs_X12_264 rfl rfl (Nat.le_of_ble_eq_true rfl) ⟨by decide, by decide⟩ ⟨Nat.zero_le _, Nat.zero_le _⟩ dX12_getCapability_23 ?_
  refine ag_aload_n dX12_getCapability_26 rfl ?_
  refine ag_iload_n dX12_getCapability_27 rfl ?_
  refine ag_bipush (v := 8) dX12_getCapability_28 (by decide) ?_
  refine ag_iadd dX12_getCapability_30 ?_
  refine ag_iconst (v := 4) dX12_getCapability_31 (by decide) ?_
  refine ag_bnd (fun p4 hp4 => ?_)
  refine ag_ivIp (c_X12_get o0 (x1 + 8) 4 ho0 hp4) vwM_D (vwM_at (kpM_10 _ ho0)) rfl cs_X12_264 rfl rfl (Nat.le_of_ble_eq_true rfl) ⟨by decide, by decide⟩ ⟨Nat.zero_le _, Nat.zero_le _⟩ dX12_getCapability_32 ?_
  refine ag_iload_n dX12_getCapability_35 rfl ?_
  refine ag_sipush (v := 255) dX12_getCapability_36 (by decide) ?_
  refine ag_iand dX12_getCapability_39 ?_
  refine ag_iload_n dX12_getCapability_40 rfl ?_
  refine ag_bipush (v := 8) dX12_getCapability_41 (by decide) ?_
  refine ag_ishr dX12_getCapability_43 ?_
  refine ag_sipush (v := 255) dX12_getCapability_44 (by decide) ?_
  refine ag_iand dX12_getCapability_47 ?_
  refine ag_aload_n dX12_getCapability_48 rfl ?_
  refine gM_X12_tags ho0 fl_X12_182 dX12_getCapability_49 ?_
  refine ag_iload_n dX12_getCapability_52 rfl ?_
  refine ag_bipush (v := 16) dX12_getCapability_53 (by decide) ?_
  refine ag_idiv dX12_getCapability_55 (by decide) ?_
  refine ag_chk (fun h5 => ?_)
  refine aM_22 (by decide) h5 dX12_getCapability_56 ?_
  refine ag_bnd (fun p6 hp6 => ?_)
  refine ag_ivVe (c_X12_make o0 x2 p2 p3 p4 (p1 &&& 255) ((p1 >>> ((8 : Int32) &&& 31)) &&& 255) (i2b (V 2200 0 (x1 / 16).toNatClampNeg)) ho0 hp6) vwM_D (vwM_at (kpM_10 _ ho0)) rfl cs_X12_250 rfl rfl (Nat.le_of_ble_eq_true rfl) ⟨by decide, by decide⟩ ⟨Nat.zero_le _, Nat.zero_le _⟩ dX12_getCapability_57 ?_
  exact ag_vrep dX12_getCapability_60
set_option maxRecDepth 100000 in
set_option maxHeartbeats 4000000 in
theorem c_X12_putCapability {l : Launch} {D : va_G} {cy : Nat → ClassId} {bs : Nat} {V : HV} (o0 : Nat) (x1 : Int32) (x2 : Int32) (x3 : Bool) (ho0 : o0 < 1) {z : HV} (hz : f_X12_putCapability o0 x1 x2 x3 V = some z) : CM l (aG 57 bs) D (tyL cy) (vwM cy bs) yX12_putCapability cX12_putCapability 4 none 1 24 tvV [.ref (bs + posM 10 o0), .int x1, .int x2, .int (b2i x3)] V ((), z) := by
  refine cm_of vwM_D (by decide +kernel) (own := RX12) rfl (Nat.le_of_ble_eq_true rfl) (L := [some (.ref (bs + posM 10 o0)), some (.int x1), some (.int x2), some (.int (b2i x3))]) rfl hz (fun Γ => ?_)
  unfold f_X12_putCapability
  refine ag_aload_n dX12_putCapability_0 rfl ?_
  refine ag_iload_n dX12_putCapability_1 rfl ?_
  refine ag_iconst (v := 4) dX12_putCapability_2 (by decide) ?_
  refine ag_aload_n dX12_putCapability_3 rfl ?_
  refine gM_X12_cursor ho0 fl_X12_7 dX12_putCapability_4 ?_
  refine ag_iload_n dX12_putCapability_7 rfl ?_
  refine ag_chk (fun h1 => ?_)
  refine aM_24 (by decide) h1 dX12_putCapability_8 ?_
  refine ag_bnd (fun p2 hp2 => ?_)
  refine ag_ivVe (c_X12_put o0 x1 4 (V 2400 0 (x2).toNatClampNeg) ho0 hp2) vwM_D (vwM_at (kpM_10 _ ho0)) rfl cs_X12_268 rfl rfl (Nat.le_of_ble_eq_true rfl) ⟨by decide, by decide⟩ ⟨Nat.zero_le _, Nat.zero_le _⟩ dX12_putCapability_9 ?_
  refine ag_aload_n dX12_putCapability_12 rfl ?_
  refine ag_iload_n dX12_putCapability_13 rfl ?_
  refine ag_iconst (v := 4) dX12_putCapability_14 (by decide) ?_
  refine ag_iadd dX12_putCapability_15 ?_
  refine ag_iconst (v := 4) dX12_putCapability_16 (by decide) ?_
  refine ag_aload_n dX12_putCapability_17 rfl ?_
  refine gM_X12_base ho0 fl_X12_13 dX12_putCapability_18 ?_
  refine ag_iload_n dX12_putCapability_21 rfl ?_
  refine ag_chk (fun h3 => ?_)
  refine aM_25 (by decide) h3 dX12_putCapability_22 ?_
  refine ag_bnd (fun p4 hp4 => ?_)
  refine ag_ivVe (c_X12_put o0 (x1 + 4) 4 (p2 2500 0 (x2).toNatClampNeg) ho0 hp4) vwM_D (vwM_at (kpM_10 _ ho0)) rfl cs_X12_268 rfl rfl (Nat.le_of_ble_eq_true rfl) ⟨by decide, by decide⟩ ⟨Nat.zero_le _, Nat.zero_le _⟩ dX12_putCapability_23 ?_
  refine ag_aload_n dX12_putCapability_26 rfl ?_
  refine ag_iload_n dX12_putCapability_27 rfl ?_
  refine ag_bipush (v := 8) dX12_putCapability_28 (by decide) ?_
  refine ag_iadd dX12_putCapability_30 ?_
  refine ag_iconst (v := 4) dX12_putCapability_31 (by decide) ?_
  refine ag_aload_n dX12_putCapability_32 rfl ?_
  refine gM_X12_top ho0 fl_X12_16 dX12_putCapability_33 ?_
  refine ag_iload_n dX12_putCapability_36 rfl ?_
  refine ag_chk (fun h5 => ?_)
  refine aM_26 (by decide) h5 dX12_putCapability_37 ?_
  refine ag_bnd (fun p6 hp6 => ?_)
  refine ag_ivVe (c_X12_put o0 (x1 + 8) 4 (p4 2600 0 (x2).toNatClampNeg) ho0 hp6) vwM_D (vwM_at (kpM_10 _ ho0)) rfl cs_X12_268 rfl rfl (Nat.le_of_ble_eq_true rfl) ⟨by decide, by decide⟩ ⟨Nat.zero_le _, Nat.zero_le _⟩ dX12_putCapability_38 ?_
  refine ag_aload_n dX12_putCapability_41 rfl ?_
  refine ag_iload_n dX12_putCapability_42 rfl ?_
  refine ag_bipush (v := 12) dX12_putCapability_43 (by decide) ?_
  refine ag_iadd dX12_putCapability_45 ?_
  refine ag_iconst (v := 4) dX12_putCapability_46 (by decide) ?_
  refine ag_aload_n dX12_putCapability_47 rfl ?_
  refine gM_X12_perms ho0 fl_X12_19 dX12_putCapability_48 ?_
  refine ag_iload_n dX12_putCapability_51 rfl ?_
  refine ag_chk (fun h7 => ?_)
  refine aM_27 (by decide) h7 dX12_putCapability_52 ?_
  refine ag_aload_n dX12_putCapability_53 rfl ?_
  refine gM_X12_type ho0 fl_X12_22 dX12_putCapability_54 ?_
  refine ag_iload_n dX12_putCapability_57 rfl ?_
  refine ag_chk (fun h8 => ?_)
  refine aM_28 (by decide) h8 dX12_putCapability_58 ?_
  refine ag_bipush (v := 8) dX12_putCapability_59 (by decide) ?_
  refine ag_ishl dX12_putCapability_61 ?_
  refine ag_ior dX12_putCapability_62 ?_
  refine ag_bnd (fun p9 hp9 => ?_)
  refine ag_ivVe (c_X12_put o0 (x1 + 12) 4 ((p6 2700 0 (x2).toNatClampNeg) ||| ((p6 2800 0 (x2).toNatClampNeg) <<< ((8 : Int32) &&& 31))) ho0 hp9) vwM_D (vwM_at (kpM_10 _ ho0)) rfl cs_X12_268 rfl rfl (Nat.le_of_ble_eq_true rfl) ⟨by decide, by decide⟩ ⟨Nat.zero_le _, Nat.zero_le _⟩ dX12_putCapability_63 ?_
  refine ag_aload_n dX12_putCapability_66 rfl ?_
  refine gM_X12_tags ho0 fl_X12_182 dX12_putCapability_67 ?_
  refine ag_iload_n dX12_putCapability_70 rfl ?_
  refine ag_bipush (v := 16) dX12_putCapability_71 (by decide) ?_
  refine ag_idiv dX12_putCapability_73 (by decide) ?_
  refine ag_iload_n dX12_putCapability_74 rfl ?_
  refine ag_chk (fun h10 => ?_)
  refine sM_22 (x := x3) (by decide) h10 dX12_putCapability_75 ?_
  refine ag_ltV (fun V11 => ?_)
  exact ag_vrep dX12_putCapability_76
set_option maxRecDepth 100000 in
set_option maxHeartbeats 4000000 in
theorem c_X12_wipe {l : Launch} {D : va_G} {cy : Nat → ClassId} {bs : Nat} {V : HV} (o0 : Nat) (x1 : Int32) (x2 : Int32) (ho0 : o0 < 1) {z : HV} (hz : f_X12_wipe o0 x1 x2 V = some z) : CM l (aG 57 bs) D (tyL cy) (vwM cy bs) yX12_wipe cX12_wipe 4 none 0 0 tvV [.ref (bs + posM 10 o0), .int x1, .int x2] V ((), z) := by
  refine cm_of vwM_D (by decide +kernel) (own := RX12) rfl (Nat.le_of_ble_eq_true rfl) (L := [some (.ref (bs + posM 10 o0)), some (.int x1), some (.int x2), none]) rfl hz (fun Γ => ?_)
  unfold f_X12_wipe
  refine ag_iload_n dX12_wipe_0 rfl ?_
  refine ag_istore_n (L' := [some (.ref (bs + posM 10 o0)), some (.int x1), some (.int x2), some (.int x1)]) dX12_wipe_1 (by decide) rfl ?_
  refine ag_jn1 (j := 30) (L1 := fun V3 => [some (.ref (bs + posM 10 o0)), some (.int x1), some (.int x2), none]) (st1 := fun V3 => []) (ws1 := fun V3 => vwM cy bs V3) (fun V3 => ?_) (fun k1 hk2 => ?_)
  · exact ag_vrep dX12_wipe_30
  · refine ag_loop2 (F := f_X12_wipe_L2 x2 k1) (L1 := fun v4 V5 => [some (.ref (bs + posM 10 o0)), some (.int x1), some (.int x2), some (.int v4)]) (st1 := fun v4 V5 => []) (ws1 := fun v4 V5 => vwM cy bs V5) (fun n6 ih7 v4 V5 => ?_) (fun _ _ => rfl) FU x1 V
    rw [f_X12_wipe_L2]
    refine ag_iload_n dX12_wipe_2 rfl ?_
    refine ag_iload_n dX12_wipe_3 rfl ?_
    refine ag_icmp_ge (tgt := 30) dX12_wipe_4 (by decide) (fun h8 => ?_) (fun h8 => ?_)
    · refine ag_drop [3] (L' := [some (.ref (bs + posM 10 o0)), some (.int x1), some (.int x2), none]) rfl ?_
      exact hk2 V5
    · refine ag_aload_n dX12_wipe_7 rfl ?_
      refine gM_X12_memory ho0 fl_X12_179 dX12_wipe_8 ?_
      refine ag_iload_n dX12_wipe_11 rfl ?_
      refine ag_iconst (v := 0) dX12_wipe_12 (by decide) ?_
      refine ag_chk (fun h9 => ?_)
      refine sM_21 (by decide) h9 dX12_wipe_13 ?_
      refine ag_ltV (fun V10 => ?_)
      refine ag_aload_n dX12_wipe_14 rfl ?_
      refine gM_X12_tags ho0 fl_X12_182 dX12_wipe_15 ?_
      refine ag_iload_n dX12_wipe_18 rfl ?_
      refine ag_bipush (v := 16) dX12_wipe_19 (by decide) ?_
      refine ag_idiv dX12_wipe_21 (by decide) ?_
      refine ag_iconst (v := 0) dX12_wipe_22 (by decide) ?_
      refine ag_chk (fun h11 => ?_)
      refine sM_22 (x := false) (by decide) h11 dX12_wipe_23 ?_
      refine ag_ltV (fun V12 => ?_)
      refine ag_iincL (L' := fun v13 => [some (.ref (bs + posM 10 o0)), some (.int x1), some (.int x2), some (.int v13)]) dX12_wipe_24 (by decide) rfl (by decide) (fun _ => rfl) (fun v13 => ?_)
      refine ag_goto (tgt := 2) dX12_wipe_27 (by decide) ?_
      exact ih7 v13 V12
set_option maxRecDepth 100000 in
set_option maxHeartbeats 4000000 in
theorem c_X12_code {l : Launch} {D : va_G} {cy : Nat → ClassId} {bs : Nat} {V : HV} (o0 : Nat) (x1 : Int32) (x2 : Int32) (x3 : Int32) (ho0 : o0 < 1) {z : HV} (hz : f_X12_code o0 x1 x2 x3 V = some z) : CM l (aG 57 bs) D (tyL cy) (vwM cy bs) yX12_code cX12_code 4 none 1 27 tvV [.ref (bs + posM 10 o0), .int x1, .int x2, .int x3] V ((), z) := by
  refine cm_of vwM_D (by decide +kernel) (own := RX12) rfl (Nat.le_of_ble_eq_true rfl) (L := [some (.ref (bs + posM 10 o0)), some (.int x1), some (.int x2), some (.int x3)]) rfl hz (fun Γ => ?_)
  unfold f_X12_code
  refine ag_aload_n dX12_code_0 rfl ?_
  refine ag_iload_n dX12_code_1 rfl ?_
  refine ag_aload_n dX12_code_2 rfl ?_
  refine gM_X12_codeAt ho0 fl_X12_40 dX12_code_3 ?_
  refine ag_iload_n dX12_code_6 rfl ?_
  refine ag_chk (fun h1 => ?_)
  refine aM_40 (by decide) h1 dX12_code_7 ?_
  refine ag_iconst (v := 4) dX12_code_8 (by decide) ?_
  refine ag_iload_n dX12_code_9 rfl ?_
  refine ag_imul dX12_code_10 ?_
  refine ag_iadd dX12_code_11 ?_
  refine ag_aload_n dX12_code_12 rfl ?_
  refine gM_X12_codeAt ho0 fl_X12_40 dX12_code_13 ?_
  refine ag_iload_n dX12_code_16 rfl ?_
  refine ag_chk (fun h2 => ?_)
  refine aM_40 (by decide) h2 dX12_code_17 ?_
  refine ag_aload_n dX12_code_18 rfl ?_
  refine gM_X12_globalsAt ho0 fl_X12_46 dX12_code_19 ?_
  refine ag_iload_n dX12_code_22 rfl ?_
  refine ag_chk (fun h3 => ?_)
  refine aM_42 (by decide) h3 dX12_code_23 ?_
  refine ag_bipush (v := 77) dX12_code_24 (by decide) ?_
  refine ag_iconst (v := 0) dX12_code_26 (by decide) ?_
  refine ag_iconst (v := 1) dX12_code_27 (by decide) ?_
  refine ag_bnd (fun p4 hp4 => ?_)
  refine ag_ivVe (c_X12_make o0 x3 ((V 4000 0 (x1).toNatClampNeg) + (4 * x2)) (V 4000 0 (x1).toNatClampNeg) (V 4200 0 (x1).toNatClampNeg) 77 0 true ho0 hp4) vwM_D (vwM_at (kpM_10 _ ho0)) rfl cs_X12_250 rfl rfl (Nat.le_of_ble_eq_true rfl) ⟨by decide, by decide⟩ ⟨Nat.zero_le _, Nat.zero_le _⟩ dX12_code_28 ?_
  exact ag_vrep dX12_code_31
set_option maxRecDepth 100000 in
set_option maxHeartbeats 4000000 in
theorem c_X12_globals {l : Launch} {D : va_G} {cy : Nat → ClassId} {bs : Nat} {V : HV} (o0 : Nat) (x1 : Int32) (x2 : Int32) (ho0 : o0 < 1) {z : HV} (hz : f_X12_globals o0 x1 x2 V = some z) : CM l (aG 57 bs) D (tyL cy) (vwM cy bs) yX12_globals cX12_globals 3 none 1 27 tvV [.ref (bs + posM 10 o0), .int x1, .int x2] V ((), z) := by
  refine cm_of vwM_D (by decide +kernel) (own := RX12) rfl (Nat.le_of_ble_eq_true rfl) (L := [some (.ref (bs + posM 10 o0)), some (.int x1), some (.int x2)]) rfl hz (fun Γ => ?_)
  unfold f_X12_globals
  refine ag_aload_n dX12_globals_0 rfl ?_
  refine ag_iload_n dX12_globals_1 rfl ?_
  refine ag_aload_n dX12_globals_2 rfl ?_
  refine gM_X12_globalsAt ho0 fl_X12_46 dX12_globals_3 ?_
  refine ag_iload_n dX12_globals_6 rfl ?_
  refine ag_chk (fun h1 => ?_)
  refine aM_42 (by decide) h1 dX12_globals_7 ?_
  refine ag_aload_n dX12_globals_8 rfl ?_
  refine gM_X12_globalsAt ho0 fl_X12_46 dX12_globals_9 ?_
  refine ag_iload_n dX12_globals_12 rfl ?_
  refine ag_chk (fun h2 => ?_)
  refine aM_42 (by decide) h2 dX12_globals_13 ?_
  refine ag_aload_n dX12_globals_14 rfl ?_
  refine gM_X12_endAt ho0 fl_X12_49 dX12_globals_15 ?_
  refine ag_iload_n dX12_globals_18 rfl ?_
  refine ag_chk (fun h3 => ?_)
  refine aM_43 (by decide) h3 dX12_globals_19 ?_
  refine ag_bipush (v := 91) dX12_globals_20 (by decide) ?_
  refine ag_iconst (v := 0) dX12_globals_22 (by decide) ?_
  refine ag_iconst (v := 1) dX12_globals_23 (by decide) ?_
  refine ag_bnd (fun p4 hp4 => ?_)
  refine ag_ivVe (c_X12_make o0 x2 (V 4200 0 (x1).toNatClampNeg) (V 4200 0 (x1).toNatClampNeg) (V 4300 0 (x1).toNatClampNeg) 91 0 true ho0 hp4) vwM_D (vwM_at (kpM_10 _ ho0)) rfl cs_X12_250 rfl rfl (Nat.le_of_ble_eq_true rfl) ⟨by decide, by decide⟩ ⟨Nat.zero_le _, Nat.zero_le _⟩ dX12_globals_24 ?_
  exact ag_vrep dX12_globals_27
set_option maxRecDepth 100000 in
set_option maxHeartbeats 4000000 in
theorem c_X12_stack {l : Launch} {D : va_G} {cy : Nat → ClassId} {bs : Nat} {V : HV} (o0 : Nat) (x1 : Int32) (x2 : Int32) (x3 : Int32) (ho0 : o0 < 1) {z : HV} (hz : f_X12_stack o0 x1 x2 x3 V = some z) : CM l (aG 57 bs) D (tyL cy) (vwM cy bs) yX12_stack cX12_stack 4 none 1 27 tvV [.ref (bs + posM 10 o0), .int x1, .int x2, .int x3] V ((), z) := by
  refine cm_of vwM_D (by decide +kernel) (own := RX12) rfl (Nat.le_of_ble_eq_true rfl) (L := [some (.ref (bs + posM 10 o0)), some (.int x1), some (.int x2), some (.int x3)]) rfl hz (fun Γ => ?_)
  unfold f_X12_stack
  refine ag_aload_n dX12_stack_0 rfl ?_
  refine ag_iload_n dX12_stack_1 rfl ?_
  refine ag_iload_n dX12_stack_2 rfl ?_
  refine ag_aload_n dX12_stack_3 rfl ?_
  refine gM_X12_stackAt ho0 fl_X12_88 dX12_stack_4 ?_
  refine ag_iload_n dX12_stack_7 rfl ?_
  refine ag_chk (fun h1 => ?_)
  refine aM_56 (by decide) h1 dX12_stack_8 ?_
  refine ag_iload_n dX12_stack_9 rfl ?_
  refine ag_sipush (v := 155) dX12_stack_10 (by decide) ?_
  refine ag_iconst (v := 0) dX12_stack_13 (by decide) ?_
  refine ag_iconst (v := 1) dX12_stack_14 (by decide) ?_
  refine ag_bnd (fun p2 hp2 => ?_)
  refine ag_ivVe (c_X12_make o0 x3 x2 (V 5600 0 (x1).toNatClampNeg) x2 155 0 true ho0 hp2) vwM_D (vwM_at (kpM_10 _ ho0)) rfl cs_X12_250 rfl rfl (Nat.le_of_ble_eq_true rfl) ⟨by decide, by decide⟩ ⟨Nat.zero_le _, Nat.zero_le _⟩ dX12_stack_15 ?_
  exact ag_vrep dX12_stack_18
set_option maxRecDepth 100000 in
set_option maxHeartbeats 4000000 in
theorem c_X12_word {l : Launch} {D : va_G} {cy : Nat → ClassId} {bs : Nat} {V : HV} (o0 : Nat) (x1 : Int32) (ho0 : o0 < 1) {z : HV} (hz : f_X12_word o0 x1 V = some z) : CM l (aG 57 bs) D (tyL cy) (vwM cy bs) yX12_word cX12_word 3 none 0 0 tvV [.ref (bs + posM 10 o0), .int x1] V ((), z) := by
  refine cm_of vwM_D (by decide +kernel) (own := RX12) rfl (Nat.le_of_ble_eq_true rfl) (L := [some (.ref (bs + posM 10 o0)), some (.int x1), none]) rfl hz (fun Γ => ?_)
  unfold f_X12_word
  refine ag_bipush (v := 24) dX12_word_0 (by decide) ?_
  refine ag_istore_n (L' := [some (.ref (bs + posM 10 o0)), some (.int x1), some (.int 24)]) dX12_word_2 (by decide) rfl ?_
  refine ag_jn1 (j := 36) (L1 := fun V3 => [some (.ref (bs + posM 10 o0)), some (.int x1), none]) (st1 := fun V3 => []) (ws1 := fun V3 => vwM cy bs V3) (fun V3 => ?_) (fun k1 hk2 => ?_)
  · exact ag_vrep dX12_word_36
  · refine ag_loop2 (F := f_X12_word_L3 o0 x1 k1) (L1 := fun v4 V5 => [some (.ref (bs + posM 10 o0)), some (.int x1), some (.int v4)]) (st1 := fun v4 V5 => []) (ws1 := fun v4 V5 => vwM cy bs V5) (fun n6 ih7 v4 V5 => ?_) (fun _ _ => rfl) FU 24 V
    rw [f_X12_word_L3]
    refine ag_iload_n dX12_word_3 rfl ?_
    refine ag_if_lt (tgt := 36) dX12_word_4 (by decide) (fun h8 => ?_) (fun h8 => ?_)
    · refine ag_drop [2] (L' := [some (.ref (bs + posM 10 o0)), some (.int x1), none]) rfl ?_
      exact hk2 V5
    · refine ag_aload_n dX12_word_7 rfl ?_
      refine gM_X12_tape ho0 fl_X12_29 dX12_word_8 ?_
      refine ag_aload_n dX12_word_11 rfl ?_
      refine gM_X12_tapeSize ho0 fl_X12_272 dX12_word_12 ?_
      refine ag_iload_n dX12_word_15 rfl ?_
      refine ag_iload_n dX12_word_16 rfl ?_
      refine ag_ishr dX12_word_17 ?_
      refine ag_i2b dX12_word_18 ?_
      refine ag_chk (fun h9 => ?_)
      refine sM_30 (by decide) h9 dX12_word_19 ?_
      refine ag_ltV (fun V10 => ?_)
      refine ag_aload_n dX12_word_20 rfl ?_
      refine ag_dup dX12_word_21 rfl ?_
      refine gM_X12_tapeSize ho0 fl_X12_272 dX12_word_22 ?_
      refine ag_iconst (v := 1) dX12_word_25 (by decide) ?_
      refine ag_iadd dX12_word_26 ?_
      refine pM_X12_tapeSize ho0 fl_X12_272 dX12_word_27 ?_
      refine ag_ltV (fun V11 => ?_)
      refine ag_iincL (L' := fun v12 => [some (.ref (bs + posM 10 o0)), some (.int x1), some (.int v12)]) dX12_word_30 (by decide) rfl (by decide) (fun _ => rfl) (fun v12 => ?_)
      refine ag_goto (tgt := 3) dX12_word_33 (by decide) ?_
      exact ih7 v12 V11
set_option maxRecDepth 100000 in
set_option maxHeartbeats 4000000 in
theorem c_X12_feed {l : Launch} {D : va_G} {cy : Nat → ClassId} {bs : Nat} {V : HV} (o0 : Nat) (x1 : Int32) (x2 : Int32) (x3 : Int32) (x4 : Int32) (x5 : Int32) (ho0 : o0 < 1) {z : Bool × HV} (hz : f_X12_feed o0 x1 x2 x3 x4 x5 V = some z) : CM l (aG 57 bs) D (tyL cy) (vwM cy bs) yX12_feed cX12_feed 6 (some .boolean) 1 22 tvZ [.ref (bs + posM 10 o0), .int x1, .int x2, .int x3, .int x4, .int x5] V z := by
  refine cm_of vwM_D (by decide +kernel) (own := RX12) rfl (Nat.le_of_ble_eq_true rfl) (L := [some (.ref (bs + posM 10 o0)), some (.int x1), some (.int x2), some (.int x3), some (.int x4), some (.int x5)]) rfl hz (fun Γ => ?_)
  unfold f_X12_feed
  refine ag_aload_n dX12_feed_0 rfl ?_
  refine gM_X12_tapeSize ho0 fl_X12_272 dX12_feed_1 ?_
  refine ag_bipush (v := 20) dX12_feed_4 (by decide) ?_
  refine ag_iadd dX12_feed_6 ?_
  refine ag_sipush (v := 5000) dX12_feed_7 (by decide) ?_
  refine ag_icmp_le (tgt := 15) dX12_feed_10 (by decide) (fun h1 => ?_) (fun h1 => ?_)
  · refine ag_aload_n dX12_feed_15 rfl ?_
    refine ag_iload_n dX12_feed_16 rfl ?_
    refine ag_bnd (fun p2 hp2 => ?_)
    refine ag_ivVe (c_X12_word o0 x1 ho0 hp2) vwM_D (vwM_at (kpM_10 _ ho0)) rfl cs_X12_275 rfl rfl (Nat.le_of_ble_eq_true rfl) ⟨by decide, by decide⟩ ⟨Nat.zero_le _, Nat.zero_le _⟩ dX12_feed_17 ?_
    refine ag_aload_n dX12_feed_20 rfl ?_
    refine ag_iload_n dX12_feed_21 rfl ?_
    refine ag_bnd (fun p3 hp3 => ?_)
    refine ag_ivVe (c_X12_word o0 x2 ho0 hp3) vwM_D (vwM_at (kpM_10 _ ho0)) rfl cs_X12_275 rfl rfl (Nat.le_of_ble_eq_true rfl) ⟨by decide, by decide⟩ ⟨Nat.zero_le _, Nat.zero_le _⟩ dX12_feed_22 ?_
    refine ag_aload_n dX12_feed_25 rfl ?_
    refine ag_iload_n dX12_feed_26 rfl ?_
    refine ag_bnd (fun p4 hp4 => ?_)
    refine ag_ivVe (c_X12_word o0 x3 ho0 hp4) vwM_D (vwM_at (kpM_10 _ ho0)) rfl cs_X12_275 rfl rfl (Nat.le_of_ble_eq_true rfl) ⟨by decide, by decide⟩ ⟨Nat.zero_le _, Nat.zero_le _⟩ dX12_feed_27 ?_
    refine ag_aload_n dX12_feed_30 rfl ?_
    refine ag_iload dX12_feed_31 rfl ?_
    refine ag_bnd (fun p5 hp5 => ?_)
    refine ag_ivVe (c_X12_word o0 x4 ho0 hp5) vwM_D (vwM_at (kpM_10 _ ho0)) rfl cs_X12_275 rfl rfl (Nat.le_of_ble_eq_true rfl) ⟨by decide, by decide⟩ ⟨Nat.zero_le _, Nat.zero_le _⟩ dX12_feed_33 ?_
    refine ag_aload_n dX12_feed_36 rfl ?_
    refine ag_iload dX12_feed_37 rfl ?_
    refine ag_bnd (fun p6 hp6 => ?_)
    refine ag_ivVe (c_X12_word o0 x5 ho0 hp6) vwM_D (vwM_at (kpM_10 _ ho0)) rfl cs_X12_275 rfl rfl (Nat.le_of_ble_eq_true rfl) ⟨by decide, by decide⟩ ⟨Nat.zero_le _, Nat.zero_le _⟩ dX12_feed_39 ?_
    refine ag_iconst (v := 1) dX12_feed_42 (by decide) ?_
    exact ag_zrep (x := true) dX12_feed_43
  · refine ag_iconst (v := 0) dX12_feed_13 (by decide) ?_
    exact ag_zrep (x := false) dX12_feed_14
set_option maxRecDepth 100000 in
set_option maxHeartbeats 4000000 in
theorem c_X12_fails {l : Launch} {D : va_G} {cy : Nat → ClassId} {bs : Nat} {V : HV} (o0 : Nat) (x1 : Int32) (x2 : Int32) (ho0 : o0 < 1) {z : HV} (hz : f_X12_fails o0 x1 x2 V = z) : CM l (aG 57 bs) D (tyL cy) (vwM cy bs) yX12_fails cX12_fails 3 none 0 0 tvV [.ref (bs + posM 10 o0), .int x1, .int x2] V ((), z) := by
  refine cm_of vwM_D (by decide +kernel) (own := RX12) rfl (Nat.le_of_ble_eq_true rfl) (L := [some (.ref (bs + posM 10 o0)), some (.int x1), some (.int x2)]) rfl hz (fun Γ => ?_)
  unfold f_X12_fails
  refine ag_aload_n dX12_fails_0 rfl ?_
  refine gM_X12_fault ho0 fl_X12_278 dX12_fails_1 ?_
  refine ag_if_eq (tgt := 8) dX12_fails_4 (by decide) (fun h1 => ?_) (fun h1 => ?_)
  · refine ag_aload_n dX12_fails_8 rfl ?_
    refine ag_iload_n dX12_fails_9 rfl ?_
    refine pM_X12_fault ho0 fl_X12_278 dX12_fails_10 ?_
    refine ag_ltV (fun V2 => ?_)
    refine ag_aload_n dX12_fails_13 rfl ?_
    refine ag_iload_n dX12_fails_14 rfl ?_
    refine pM_X12_place ho0 fl_X12_36 dX12_fails_15 ?_
    refine ag_ltV (fun V3 => ?_)
    exact ag_vre dX12_fails_18
  · exact ag_vre dX12_fails_7
set_option maxRecDepth 100000 in
set_option maxHeartbeats 4000000 in
theorem c_X12_next {l : Launch} {D : va_G} {cy : Nat → ClassId} {bs : Nat} {V : HV} (o0 : Nat) (x1 : Int32) (x2 : Int32) (x3 : Int32) (ho0 : o0 < 1) {z : Int32 × HV} (hz : f_X12_next o0 x1 x2 x3 V = some z) : CM l (aG 57 bs) D (tyL cy) (vwM cy bs) yX12_next cX12_next 6 (some .int) 1 22 tvI [.ref (bs + posM 10 o0), .int x1, .int x2, .int x3] V z := by
  refine cm_of vwM_D (by decide +kernel) (own := RX12) rfl (Nat.le_of_ble_eq_true rfl) (L := [some (.ref (bs + posM 10 o0)), some (.int x1), some (.int x2), some (.int x3), none, none]) rfl hz (fun Γ => ?_)
  unfold f_X12_next
  refine ag_aload_n dX12_next_0 rfl ?_
  refine gM_X12_fault ho0 fl_X12_278 dX12_next_1 ?_
  refine ag_if_eq (tgt := 9) dX12_next_4 (by decide) (fun h1 => ?_) (fun h1 => ?_)
  · refine ag_aload_n dX12_next_9 rfl ?_
    refine gM_X12_at ho0 fl_X12_281 dX12_next_10 ?_
    refine ag_ltI (fun v2 => ?_)
    refine ag_istore (L' := [some (.ref (bs + posM 10 o0)), some (.int x1), some (.int x2), some (.int x3), some (.int v2), none]) dX12_next_13 (by decide) rfl ?_
    refine ag_aload_n dX12_next_15 rfl ?_
    refine gM_X12_at ho0 fl_X12_281 dX12_next_16 ?_
    refine ag_iload_n dX12_next_19 rfl ?_
    refine ag_iadd dX12_next_20 ?_
    refine ag_aload_n dX12_next_21 rfl ?_
    refine gM_X12_imageSize ho0 fl_X12_284 dX12_next_22 ?_
    refine ag_icmp_le (tgt := 39) dX12_next_25 (by decide) (fun h3 => ?_) (fun h3 => ?_)
    · refine ag_aload_n dX12_next_39 rfl ?_
      refine gM_X12_image ho0 fl_X12_33 dX12_next_40 ?_
      refine ag_aload_n dX12_next_43 rfl ?_
      refine gM_X12_at ho0 fl_X12_281 dX12_next_44 ?_
      refine ag_chk (fun h4 => ?_)
      refine aM_32 (by decide) h4 dX12_next_47 ?_
      refine ag_sipush (v := 255) dX12_next_48 (by decide) ?_
      refine ag_iand dX12_next_51 ?_
      refine ag_ltI (fun v5 => ?_)
      refine ag_istore (L' := [some (.ref (bs + posM 10 o0)), some (.int x1), some (.int x2), some (.int x3), some (.int v2), some (.int v5)]) dX12_next_52 (by decide) rfl ?_
      refine ag_iload_n dX12_next_54 rfl ?_
      refine ag_iconst (v := 2) dX12_next_55 (by decide) ?_
      refine ag_jn1 (j := 82) (L1 := fun v6 => [some (.ref (bs + posM 10 o0)), some (.int x1), some (.int x2), some (.int x3), some (.int v2), some (.int v6)]) (st1 := fun v6 => []) (ws1 := fun v6 => vwM cy bs V) (fun v6 => ?_) (fun k7 hk8 => ?_)
      · refine ag_aload_n dX12_next_82 rfl ?_
        refine ag_dup dX12_next_83 rfl ?_
        refine gM_X12_at ho0 fl_X12_281 dX12_next_84 ?_
        refine ag_iload_n dX12_next_87 rfl ?_
        refine ag_iadd dX12_next_88 ?_
        refine pM_X12_at ho0 fl_X12_281 dX12_next_89 ?_
        refine ag_ltV (fun V9 => ?_)
        refine ag_iload dX12_next_92 rfl ?_
        refine ag_iload_n dX12_next_94 rfl ?_
        refine ag_jn1 (j := 111) (L1 := fun V10 => [some (.ref (bs + posM 10 o0)), some (.int x1), some (.int x2), some (.int x3), some (.int v2), some (.int v6)]) (st1 := fun V10 => []) (ws1 := fun V10 => vwM cy bs V10) (fun V10 => ?_) (fun k11 hk12 => ?_)
        · refine ag_iload dX12_next_111 rfl ?_
          refine ag_iload_n dX12_next_113 rfl ?_
          refine ag_dv (j := 129) (L1 := fun _ => [some (.ref (bs + posM 10 o0)), some (.int x1), some (.int x2), some (.int x3), some (.int v2), some (.int v6)]) (st1 := fun v13 => [.int v13]) (ws1 := fun _ => vwM cy bs V10) (fun v13 => ?_) (fun k15 hk14 => ?_)
          · exact ag_irep dX12_next_129
          · refine ag_icmp_lt_v (tgt := 123) dX12_next_114 (by decide) (fun h16 => ?_) (fun h16 => ?_)
            · refine ag_iload_n dX12_next_123 rfl ?_
              refine ag_goto (tgt := 129) dX12_next_124 (by decide) ?_
              exact hk14 x2
            · refine ag_iload dX12_next_117 rfl ?_
              refine ag_iload_n dX12_next_119 rfl ?_
              refine ag_icmp_le_v (tgt := 127) dX12_next_120 (by decide) (fun h17 => ?_) (fun h17 => ?_)
              · refine ag_iload dX12_next_127 rfl ?_
                exact hk14 v6
              · refine ag_iload_n dX12_next_123 rfl ?_
                refine ag_goto (tgt := 129) dX12_next_124 (by decide) ?_
                exact hk14 x2
        · refine ag_jn0 (j := 104) (L1 := [some (.ref (bs + posM 10 o0)), some (.int x1), some (.int x2), some (.int x3), some (.int v2), some (.int v6)]) (st1 := []) (ws1 := vwM cy bs V9) (?_) (fun k18 hk19 => ?_)
          · refine ag_aload_n dX12_next_104 rfl ?_
            refine ag_iconst (v := 2) dX12_next_105 (by decide) ?_
            refine ag_iload dX12_next_106 rfl ?_
            refine ag_ivVe (c_X12_fails o0 2 v2 ho0 rfl) vwM_D (vwM_at (kpM_10 _ ho0)) rfl cs_X12_287 rfl rfl (Nat.le_of_ble_eq_true rfl) ⟨by decide, by decide⟩ ⟨Nat.zero_le _, Nat.zero_le _⟩ dX12_next_108 ?_
            refine ag_ltV (fun V20 => ?_)
            exact hk12 V20
          · refine ag_icmp_lt (tgt := 104) dX12_next_95 (by decide) (fun h21 => ?_) (fun h21 => ?_)
            · exact hk19
            · refine ag_iload dX12_next_98 rfl ?_
              refine ag_iload_n dX12_next_100 rfl ?_
              refine ag_icmp_le (tgt := 111) dX12_next_101 (by decide) (fun h22 => ?_) (fun h22 => ?_)
              · exact hk12 V9
              · exact hk19
      · refine ag_icmp_ne (tgt := 82) dX12_next_56 (by decide) (fun h23 => ?_) (fun h23 => ?_)
        · exact hk8 v5
        · refine ag_iload dX12_next_59 rfl ?_
          refine ag_aload_n dX12_next_61 rfl ?_
          refine gM_X12_image ho0 fl_X12_33 dX12_next_62 ?_
          refine ag_aload_n dX12_next_65 rfl ?_
          refine gM_X12_at ho0 fl_X12_281 dX12_next_66 ?_
          refine ag_iconst (v := 1) dX12_next_69 (by decide) ?_
          refine ag_iadd dX12_next_70 ?_
          refine ag_chk (fun h24 => ?_)
          refine aM_32 (by decide) h24 dX12_next_71 ?_
          refine ag_sipush (v := 255) dX12_next_72 (by decide) ?_
          refine ag_iand dX12_next_75 ?_
          refine ag_bipush (v := 8) dX12_next_76 (by decide) ?_
          refine ag_ishl dX12_next_78 ?_
          refine ag_ior dX12_next_79 ?_
          refine ag_ltI (fun v25 => ?_)
          refine ag_istore (L' := [some (.ref (bs + posM 10 o0)), some (.int x1), some (.int x2), some (.int x3), some (.int v2), some (.int v25)]) dX12_next_80 (by decide) rfl ?_
          exact hk8 v25
    · refine ag_aload_n dX12_next_28 rfl ?_
      refine ag_iconst (v := 1) dX12_next_29 (by decide) ?_
      refine ag_aload_n dX12_next_30 rfl ?_
      refine gM_X12_imageSize ho0 fl_X12_284 dX12_next_31 ?_
      refine ag_ivVe (c_X12_fails o0 1 (V 1013 o0 0) ho0 rfl) vwM_D (vwM_at (kpM_10 _ ho0)) rfl cs_X12_287 rfl rfl (Nat.le_of_ble_eq_true rfl) ⟨by decide, by decide⟩ ⟨Nat.zero_le _, Nat.zero_le _⟩ dX12_next_34 ?_
      refine ag_ltV (fun V26 => ?_)
      refine ag_iload_n dX12_next_37 rfl ?_
      exact ag_irep dX12_next_38
  · refine ag_iload_n dX12_next_7 rfl ?_
    exact ag_irep dX12_next_8
