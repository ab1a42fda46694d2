set_option maxRecDepth 100000 in
set_option maxHeartbeats 4000000 in
theorem c_X10_tick {l : Launch} {D : va_G} {cy : Nat → ClassId} {bs kb : Nat} {V : HV} (o0 : Nat) (ho0 : o0 < 1) {z : HV} (hz : f_X10_tick kb o0 V = some z) : CM l (aG 737 bs) D (tyL cy) (vwC cy bs kb) yX10_tick cX10_tick 3 none 4 91 tvV [.ref (bs + posC 8 o0)] V ((), z) := by
  refine cm_of vwC_D (by decide +kernel) (own := RX10) rfl (Nat.le_of_ble_eq_true rfl) (L := [some (.ref (bs + posC 8 o0)), none, none]) rfl hz (fun Γ => ?_)
  unfold f_X10_tick
  refine ag_aload_n dX10_tick_0 rfl ?_
  refine ag_dup dX10_tick_1 rfl ?_
  refine gC_X10_time ho0 fl_X10_78 dX10_tick_2 ?_
  refine ag_iconst (v := 1) dX10_tick_5 (by decide) ?_
  refine ag_iadd dX10_tick_6 ?_
  refine pC_X10_time ho0 fl_X10_78 dX10_tick_7 ?_
  refine ag_ltV (fun V1 => ?_)
  refine ag_iconst (v := 0) dX10_tick_10 (by decide) ?_
  refine ag_istore_n (L' := [some (.ref (bs + posC 8 o0)), some (.int 0), none]) dX10_tick_11 (by decide) rfl ?_
  refine ag_jn1 (j := 51) (L1 := fun V4 => [some (.ref (bs + posC 8 o0)), none, none]) (st1 := fun V4 => []) (ws1 := fun V4 => vwC cy bs kb V4) (fun V4 => ?_) (fun k2 hk3 => ?_)
  · refine ag_aload_n dX10_tick_51 rfl ?_
    refine ag_aload_n dX10_tick_52 rfl ?_
    refine gC_X10_current ho0 fl_X10_42 dX10_tick_53 ?_
    refine ag_bnd (fun p5 hp5 => ?_)
    refine ag_ivOp (c_X10_taskAt o0 (V4 811 o0 0) ho0 hp5) vwC_D (vwC_at (kpC_8 _ ho0)) rfl cs_X10_112 rfl rfl (Nat.le_of_ble_eq_true rfl) ⟨by decide, by decide⟩ ⟨Nat.zero_le _, Nat.zero_le _⟩ dX10_tick_56 ?_
    refine ag_ostore_n (L' := [some (.ref (bs + posC 8 o0)), some (va_rf (p5.map (fun x => bs + posC 7 x))), none]) dX10_tick_59 (by decide) rfl ?_
    refine ag_oload_n dX10_tick_60 rfl ?_
    refine ag_jn1 (j := 87) (L1 := fun V6 => [some (.ref (bs + posC 8 o0)), some (va_rf (p5.map (fun x => bs + posC 7 x))), none]) (st1 := fun V6 => []) (ws1 := fun V6 => vwC cy bs kb V6) (fun V6 => ?_) (fun k7 hk8 => ?_)
    · refine ag_aload_n dX10_tick_87 rfl ?_
      refine ag_aload_n dX10_tick_88 rfl ?_
      refine gC_X10_current ho0 fl_X10_42 dX10_tick_89 ?_
      refine ag_bnd (fun p9 hp9 => ?_)
      refine ag_ivOp (c_X10_taskAt o0 (V6 811 o0 0) ho0 hp9) vwC_D (vwC_at (kpC_8 _ ho0)) rfl cs_X10_112 rfl rfl (Nat.le_of_ble_eq_true rfl) ⟨by decide, by decide⟩ ⟨Nat.zero_le _, Nat.zero_le _⟩ dX10_tick_92 ?_
      refine ag_ostore_n (L' := [some (.ref (bs + posC 8 o0)), some (va_rf (p5.map (fun x => bs + posC 7 x))), some (va_rf (p9.map (fun x => bs + posC 7 x)))]) dX10_tick_95 (by decide) (by cases p5 <;> rfl) ?_
      refine ag_oload_n dX10_tick_96 rfl ?_
      refine ag_ifnull (tgt := 118) dX10_tick_97 (by decide) (fun eh11 => ?_) (fun a10 eh11 => ?_)
      · subst eh11
        refine ag_Lc (L' := [some (.ref (bs + posC 8 o0)), some (va_rf (p5.map (fun x => bs + posC 7 x))), some (.null)]) rfl ?_
        exact ag_vrep dX10_tick_118
      · subst eh11
        refine ag_chk (fun h11 => ?_)
        refine ag_Lc (L' := [some (.ref (bs + posC 8 o0)), some (va_rf (p5.map (fun x => bs + posC 7 x))), some (.ref (bs + posC 7 a10))]) rfl ?_
        refine ag_aload_n dX10_tick_100 rfl ?_
        refine ag_aload_n dX10_tick_101 rfl ?_
        refine gC_X10_time ho0 fl_X10_78 dX10_tick_102 ?_
        refine pC_X9_lastCurrent h11 fl_X10_127 dX10_tick_105 ?_
        refine ag_ltV (fun V12 => ?_)
        refine ag_aload_n dX10_tick_108 rfl ?_
        refine ag_dup dX10_tick_109 rfl ?_
        refine gC_X10_ran ho0 fl_X10_81 dX10_tick_110 ?_
        refine ag_iconst (v := 1) dX10_tick_113 (by decide) ?_
        refine ag_iadd dX10_tick_114 ?_
        refine pC_X10_ran ho0 fl_X10_81 dX10_tick_115 ?_
        refine ag_ltV (fun V13 => ?_)
        exact ag_vrep dX10_tick_118
    · refine ag_jn0 (j := 79) (L1 := [some (.ref (bs + posC 8 o0)), some (va_rf (p5.map (fun x => bs + posC 7 x))), none]) (st1 := []) (ws1 := vwC cy bs kb V4) (?_) (fun k14 hk15 => ?_)
      · refine ag_aload_n dX10_tick_79 rfl ?_
        refine ag_aload_n dX10_tick_80 rfl ?_
        refine ag_bnd (fun p16 hp16 => ?_)
        refine ag_ivIp (c_X10_best o0 ho0 hp16) vwC_D (vwC_at (kpC_8 _ ho0)) rfl cs_X10_120 rfl rfl (Nat.le_of_ble_eq_true rfl) ⟨by decide, by decide⟩ ⟨Nat.zero_le _, Nat.zero_le _⟩ dX10_tick_81 ?_
        refine ag_bnd (fun p17 hp17 => ?_)
        refine ag_ivVe (c_X10_makeCurrent o0 p16 ho0 hp17) vwC_D (vwC_at (kpC_8 _ ho0)) rfl cs_X10_124 rfl rfl (Nat.le_of_ble_eq_true rfl) ⟨by decide, by decide⟩ ⟨Nat.zero_le _, Nat.zero_le _⟩ dX10_tick_84 ?_
        exact hk8 p17
      · refine ag_ifnull (tgt := 79) dX10_tick_61 (by decide) (fun eh19 => ?_) (fun a18 eh19 => ?_)
        · subst eh19
          refine ag_Lc (L' := [some (.ref (bs + posC 8 o0)), some (.null), none]) rfl ?_
          exact hk15
        · subst eh19
          refine ag_chk (fun h19 => ?_)
          refine ag_Lc (L' := [some (.ref (bs + posC 8 o0)), some (.ref (bs + posC 7 a18)), none]) rfl ?_
          refine ag_aload_n dX10_tick_64 rfl ?_
          refine gC_X9_state h19 fl_X10_102 dX10_tick_65 ?_
          refine ag_if_ne (tgt := 79) dX10_tick_68 (by decide) (fun h20 => ?_) (fun h20 => ?_)
          · exact hk15
          · refine ag_aload_n dX10_tick_71 rfl ?_
            refine ag_aload_n dX10_tick_72 rfl ?_
            refine ag_bnd (fun p21 hp21 => ?_)
            refine ag_ivZp (c_X10_mustLeave o0 a18 ho0 h19 hp21) vwC_D (vwC_at (kpC_8 _ ho0)) rfl cs_X10_116 rfl rfl (Nat.le_of_ble_eq_true rfl) ⟨by decide, by decide⟩ ⟨Nat.zero_le _, Nat.zero_le _⟩ dX10_tick_73 ?_
            refine ag_bif_eq (tgt := 87) dX10_tick_76 (by decide) (fun h22 => ?_) (fun h22 => ?_)
            · exact hk8 V4
            · exact hk15
  · refine ag_loop2 (F := f_X10_tick_L12 o0 kb k2) (L1 := fun v23 V24 => [some (.ref (bs + posC 8 o0)), some (.int v23), none]) (st1 := fun v23 V24 => []) (ws1 := fun v23 V24 => vwC cy bs kb V24) (fun n25 ih26 v23 V24 => ?_) (fun _ _ => rfl) FU 0 V1
    rw [f_X10_tick_L12]
    refine ag_iload_n dX10_tick_12 rfl ?_
    refine ag_aload_n dX10_tick_13 rfl ?_
    refine gC_X10_taskCount ho0 fl_X10_71 dX10_tick_14 ?_
    refine ag_icmp_ge (tgt := 51) dX10_tick_17 (by decide) (fun h27 => ?_) (fun h27 => ?_)
    · refine ag_drop [1] (L' := [some (.ref (bs + posC 8 o0)), none, none]) rfl ?_
      exact hk3 V24
    · refine ag_aload_n dX10_tick_20 rfl ?_
      refine gC_X10_tasks ho0 fl_X10_31 dX10_tick_21 ?_
      refine ag_iload_n dX10_tick_24 rfl ?_
      refine ag_chk (fun h28 => ?_)
      have qh28 := inb_lt h28
      refine aC_22 (by decide) h28 dX10_tick_25 ?_
      refine ag_aload_n dX10_tick_26 rfl ?_
      refine gC_X10_time ho0 fl_X10_78 dX10_tick_27 ?_
      refine ag_ivZp (c_X9_isDue ((v23).toNatClampNeg) (V24 810 o0 0) (by omega) rfl) vwC_D (vwC_at (kpC_7 _ (by omega))) rfl cs_X10_105 rfl rfl (Nat.le_of_ble_eq_true rfl) ⟨by decide, by decide⟩ ⟨Nat.zero_le _, Nat.zero_le _⟩ dX10_tick_30 ?_
      refine ag_ltZ (fun v29 => ?_)
      refine ag_jn1 (j := 45) (L1 := fun V30 => [some (.ref (bs + posC 8 o0)), some (.int v23), none]) (st1 := fun V30 => []) (ws1 := fun V30 => vwC cy bs kb V30) (fun V30 => ?_) (fun k31 hk32 => ?_)
      · refine ag_iincL (L' := fun v33 => [some (.ref (bs + posC 8 o0)), some (.int v33), none]) dX10_tick_45 (by decide) rfl (by decide) (fun _ => rfl) (fun v33 => ?_)
        refine ag_goto (tgt := 12) dX10_tick_48 (by decide) ?_
        exact ih26 v33 V30
      · refine ag_bif_eq (tgt := 45) dX10_tick_33 (by decide) (fun h34 => ?_) (fun h34 => ?_)
        · exact hk32 V24
        · refine ag_aload_n dX10_tick_36 rfl ?_
          refine gC_X10_tasks ho0 fl_X10_31 dX10_tick_37 ?_
          refine ag_iload_n dX10_tick_40 rfl ?_
          refine ag_chk (fun h35 => ?_)
          have qh35 := inb_lt h35
          refine aC_22 (by decide) h35 dX10_tick_41 ?_
          refine ag_ivVe (c_X9_becomeReady ((v23).toNatClampNeg) (by omega) rfl) vwC_D (vwC_at (kpC_7 _ (by omega))) rfl cs_X10_109 rfl rfl (Nat.le_of_ble_eq_true rfl) ⟨by decide, by decide⟩ ⟨Nat.zero_le _, Nat.zero_le _⟩ dX10_tick_42 ?_
          refine ag_ltV (fun V36 => ?_)
          exact hk32 V36
set_option maxRecDepth 100000 in
set_option maxHeartbeats 4000000 in
theorem c_X10_endSweep {l : Launch} {D : va_G} {cy : Nat → ClassId} {bs kb : Nat} {V : HV} (o0 : Nat) (ho0 : o0 < 1) {z : HV} (hz : f_X10_endSweep kb o0 V = some z) : CM l (aG 737 bs) D (tyL cy) (vwC cy bs kb) yX10_endSweep cX10_endSweep 2 none 4 87 tvV [.ref (bs + posC 8 o0)] V ((), z) := by
  refine cm_of vwC_D (by decide +kernel) (own := RX10) rfl (Nat.le_of_ble_eq_true rfl) (L := [some (.ref (bs + posC 8 o0)), none]) rfl hz (fun Γ => ?_)
  unfold f_X10_endSweep
  refine ag_iconst (v := 0) dX10_endSweep_0 (by decide) ?_
  refine ag_istore_n (L' := [some (.ref (bs + posC 8 o0)), some (.int 0)]) dX10_endSweep_1 (by decide) rfl ?_
  refine ag_jn1 (j := 42) (L1 := fun V3 => [some (.ref (bs + posC 8 o0)), none]) (st1 := fun V3 => []) (ws1 := fun V3 => vwC cy bs kb V3) (fun V3 => ?_) (fun k1 hk2 => ?_)
  · refine ag_aload_n dX10_endSweep_42 rfl ?_
    refine gC_X10_heap ho0 fl_X10_56 dX10_endSweep_43 ?_
    refine ag_aload_n dX10_endSweep_46 rfl ?_
    refine gC_X10_store ho0 fl_X10_49 dX10_endSweep_47 ?_
    refine ag_bnd (fun p4 hp4 => ?_)
    refine ag_ivVe (c_X4_endSweep 0 0 (by decide) (by decide) hp4) vwC_D (vwC_at (kpC_3 _ (by decide))) rfl cs_X10_165 rfl rfl (Nat.le_of_ble_eq_true rfl) ⟨by decide, by decide⟩ ⟨Nat.zero_le _, Nat.zero_le _⟩ dX10_endSweep_50 ?_
    refine ag_iconst (v := 0) dX10_endSweep_53 (by decide) ?_
    refine ag_istore_n (L' := [some (.ref (bs + posC 8 o0)), some (.int 0)]) dX10_endSweep_54 (by decide) rfl ?_
    refine ag_jn1 (j := 116) (L1 := fun V7 => [some (.ref (bs + posC 8 o0)), none]) (st1 := fun V7 => []) (ws1 := fun V7 => vwC cy bs kb V7) (fun V7 => ?_) (fun k5 hk6 => ?_)
    · exact ag_vrep dX10_endSweep_116
    · refine ag_loop2 (F := f_X10_endSweep_L55 o0 kb k5) (L1 := fun v8 V9 => [some (.ref (bs + posC 8 o0)), some (.int v8)]) (st1 := fun v8 V9 => []) (ws1 := fun v8 V9 => vwC cy bs kb V9) (fun n10 ih11 v8 V9 => ?_) (fun _ _ => rfl) FU 0 p4
      rw [f_X10_endSweep_L55]
      refine ag_iload_n dX10_endSweep_55 rfl ?_
      refine ag_aload_n dX10_endSweep_56 rfl ?_
      refine gC_X10_taskCount ho0 fl_X10_71 dX10_endSweep_57 ?_
      refine ag_icmp_ge (tgt := 116) dX10_endSweep_60 (by decide) (fun h12 => ?_) (fun h12 => ?_)
      · refine ag_drop [1] (L' := [some (.ref (bs + posC 8 o0)), none]) rfl ?_
        exact hk6 V9
      · refine ag_aload_n dX10_endSweep_63 rfl ?_
        refine gC_X10_tasks ho0 fl_X10_31 dX10_endSweep_64 ?_
        refine ag_iload_n dX10_endSweep_67 rfl ?_
        refine ag_chk (fun h13 => ?_)
        have qh13 := inb_lt h13
        refine aC_22 (by decide) h13 dX10_endSweep_68 ?_
        refine gC_X9_state (by omega) fl_X10_102 dX10_endSweep_69 ?_
        refine ag_iconst (v := 4) dX10_endSweep_72 (by decide) ?_
        refine ag_jn1 (j := 110) (L1 := fun V14 => [some (.ref (bs + posC 8 o0)), some (.int v8)]) (st1 := fun V14 => []) (ws1 := fun V14 => vwC cy bs kb V14) (fun V14 => ?_) (fun k15 hk16 => ?_)
        · refine ag_iincL (L' := fun v17 => [some (.ref (bs + posC 8 o0)), some (.int v17)]) dX10_endSweep_110 (by decide) rfl (by decide) (fun _ => rfl) (fun v17 => ?_)
          refine ag_goto (tgt := 55) dX10_endSweep_113 (by decide) ?_
          exact ih11 v17 V14
        · refine ag_icmp_ne (tgt := 110) dX10_endSweep_73 (by decide) (fun h18 => ?_) (fun h18 => ?_)
          · exact hk16 V9
          · refine ag_aload_n dX10_endSweep_76 rfl ?_
            refine ag_aload_n dX10_endSweep_77 rfl ?_
            refine gC_X10_tasks ho0 fl_X10_31 dX10_endSweep_78 ?_
            refine ag_iload_n dX10_endSweep_81 rfl ?_
            refine ag_chk (fun h19 => ?_)
            have qh19 := inb_lt h19
            refine aC_22 (by decide) h19 dX10_endSweep_82 ?_
            refine gC_X9_wanted (by omega) fl_X10_167 dX10_endSweep_83 ?_
            refine ag_aload_n dX10_endSweep_86 rfl ?_
            refine gC_X10_tasks ho0 fl_X10_31 dX10_endSweep_87 ?_
            refine ag_iload_n dX10_endSweep_90 rfl ?_
            refine ag_chk (fun h20 => ?_)
            have qh20 := inb_lt h20
            refine aC_22 (by decide) h20 dX10_endSweep_91 ?_
            refine ag_bipush (v := 10) dX10_endSweep_92 (by decide) ?_
            refine ag_ivRp (c_X9_reg ((v8).toNatClampNeg) 10 (by omega) rfl) vwC_D (vwC_at (kpC_7 _ (by omega))) rfl cs_X10_170 rfl rfl (Nat.le_of_ble_eq_true rfl) ⟨by decide, by decide⟩ ⟨Nat.zero_le _, Nat.zero_le _⟩ dX10_endSweep_94 ?_
            refine ag_bnd (fun p21 hp21 => ?_)
            refine ag_ivZe (c_X10_grant o0 (V9 715 ((v8).toNatClampNeg) 0) (f_X9_reg ((v8).toNatClampNeg) 10) ho0 (ok_X9_reg (by omega)) hp21) vwC_D (vwC_at (kpC_8 _ ho0)) rfl cs_X10_174 rfl rfl (Nat.le_of_ble_eq_true rfl) ⟨by decide, by decide⟩ ⟨Nat.zero_le _, Nat.zero_le _⟩ dX10_endSweep_97 ?_
            refine ag_pop dX10_endSweep_100 rfl ?_
            refine ag_aload_n dX10_endSweep_101 rfl ?_
            refine gC_X10_tasks ho0 fl_X10_31 dX10_endSweep_102 ?_
            refine ag_iload_n dX10_endSweep_105 rfl ?_
            refine ag_chk (fun h22 => ?_)
            have qh22 := inb_lt h22
            refine aC_22 (by decide) h22 dX10_endSweep_106 ?_
            refine ag_ivVe (c_X9_becomeReady ((v8).toNatClampNeg) (by omega) rfl) vwC_D (vwC_at (kpC_7 _ (by omega))) rfl cs_X10_109 rfl rfl (Nat.le_of_ble_eq_true rfl) ⟨by decide, by decide⟩ ⟨Nat.zero_le _, Nat.zero_le _⟩ dX10_endSweep_107 ?_
            refine ag_ltV (fun V23 => ?_)
            exact hk16 V23
  · refine ag_loop2 (F := f_X10_endSweep_L2 o0 kb k1) (L1 := fun v24 V25 => [some (.ref (bs + posC 8 o0)), some (.int v24)]) (st1 := fun v24 V25 => []) (ws1 := fun v24 V25 => vwC cy bs kb V25) (fun n26 ih27 v24 V25 => ?_) (fun _ _ => rfl) FU 0 V
    rw [f_X10_endSweep_L2]
    refine ag_iload_n dX10_endSweep_2 rfl ?_
    refine ag_aload_n dX10_endSweep_3 rfl ?_
    refine gC_X10_taskCount ho0 fl_X10_71 dX10_endSweep_4 ?_
    refine ag_icmp_ge (tgt := 42) dX10_endSweep_7 (by decide) (fun h28 => ?_) (fun h28 => ?_)
    · refine ag_drop [1] (L' := [some (.ref (bs + posC 8 o0)), none]) rfl ?_
      exact hk2 V25
    · refine ag_aload_n dX10_endSweep_10 rfl ?_
      refine gC_X10_tasks ho0 fl_X10_31 dX10_endSweep_11 ?_
      refine ag_iload_n dX10_endSweep_14 rfl ?_
      refine ag_chk (fun h29 => ?_)
      have qh29 := inb_lt h29
      refine aC_22 (by decide) h29 dX10_endSweep_15 ?_
      refine ag_aload_n dX10_endSweep_16 rfl ?_
      refine gC_X10_store ho0 fl_X10_49 dX10_endSweep_17 ?_
      refine ag_bnd (fun p30 hp30 => ?_)
      refine ag_ivVe (c_X9_filterBy ((v24).toNatClampNeg) 0 (by omega) (by decide) hp30) vwC_D (vwC_at (kpC_7 _ (by omega))) rfl cs_X10_142 rfl rfl (Nat.le_of_ble_eq_true rfl) ⟨by decide, by decide⟩ ⟨Nat.zero_le _, Nat.zero_le _⟩ dX10_endSweep_20 ?_
      refine ag_aload_n dX10_endSweep_23 rfl ?_
      refine gC_X10_tasks ho0 fl_X10_31 dX10_endSweep_24 ?_
      refine ag_iload_n dX10_endSweep_27 rfl ?_
      refine ag_chk (fun h31 => ?_)
      have qh31 := inb_lt h31
      refine aC_22 (by decide) h31 dX10_endSweep_28 ?_
      refine ag_aload_n dX10_endSweep_29 rfl ?_
      refine gC_X10_store ho0 fl_X10_49 dX10_endSweep_30 ?_
      refine ag_bnd (fun p32 hp32 => ?_)
      refine ag_ivVe (c_X9_filterFramesBy ((v24).toNatClampNeg) 0 (by omega) (by decide) hp32) vwC_D (vwC_at (kpC_7 _ (by omega))) rfl cs_X10_162 rfl rfl (Nat.le_of_ble_eq_true rfl) ⟨by decide, by decide⟩ ⟨Nat.zero_le _, Nat.zero_le _⟩ dX10_endSweep_33 ?_
      refine ag_iincL (L' := fun v33 => [some (.ref (bs + posC 8 o0)), some (.int v33)]) dX10_endSweep_36 (by decide) rfl (by decide) (fun _ => rfl) (fun v33 => ?_)
      refine ag_goto (tgt := 2) dX10_endSweep_39 (by decide) ?_
      exact ih27 v33 p32
set_option maxRecDepth 100000 in
set_option maxHeartbeats 4000000 in
theorem c_X10_sweep {l : Launch} {D : va_G} {cy : Nat → ClassId} {bs kb : Nat} {V : HV} (o0 : Nat) (ho0 : o0 < 1) {z : HV} (hz : f_X10_sweep kb o0 V = some z) : CM l (aG 737 bs) D (tyL cy) (vwC cy bs kb) yX10_sweep cX10_sweep 2 none 5 108 tvV [.ref (bs + posC 8 o0)] V ((), z) := by
  refine cm_of vwC_D (by decide +kernel) (own := RX10) rfl (Nat.le_of_ble_eq_true rfl) (L := [some (.ref (bs + posC 8 o0)), none]) rfl hz (fun Γ => ?_)
  unfold f_X10_sweep
  refine ag_aload_n dX10_sweep_0 rfl ?_
  refine gC_X10_heap ho0 fl_X10_56 dX10_sweep_1 ?_
  refine gC_X4_next (by decide) fl_X10_146 dX10_sweep_4 ?_
  refine ag_if_ge (tgt := 18) dX10_sweep_7 (by decide) (fun h1 => ?_) (fun h1 => ?_)
  · refine ag_iconst (v := 0) dX10_sweep_18 (by decide) ?_
    refine ag_istore_n (L' := [some (.ref (bs + posC 8 o0)), some (.int 0)]) dX10_sweep_19 (by decide) rfl ?_
    refine ag_jn1 (j := 47) (L1 := fun V4 => [some (.ref (bs + posC 8 o0)), none]) (st1 := fun V4 => []) (ws1 := fun V4 => vwC cy bs kb V4) (fun V4 => ?_) (fun k2 hk3 => ?_)
    · refine ag_aload_n dX10_sweep_47 rfl ?_
      refine gC_X10_heap ho0 fl_X10_56 dX10_sweep_48 ?_
      refine ag_dup dX10_sweep_51 rfl ?_
      refine gC_X4_next (by decide) fl_X10_146 dX10_sweep_52 ?_
      refine ag_iconst (v := 4) dX10_sweep_55 (by decide) ?_
      refine ag_iadd dX10_sweep_56 ?_
      refine pC_X4_next (by decide) fl_X10_146 dX10_sweep_57 ?_
      refine ag_ltV (fun V5 => ?_)
      refine ag_aload_n dX10_sweep_60 rfl ?_
      refine gC_X10_heap ho0 fl_X10_56 dX10_sweep_61 ?_
      refine gC_X4_next (by decide) fl_X10_146 dX10_sweep_64 ?_
      refine ag_aload_n dX10_sweep_67 rfl ?_
      refine gC_X10_store ho0 fl_X10_49 dX10_sweep_68 ?_
      refine gC_X8_marks (by decide) fl_X10_155 dX10_sweep_71 ?_
      refine nC_24 (by decide) dX10_sweep_74 ?_
      refine ag_icmp_lt (tgt := 82) dX10_sweep_75 (by decide) (fun h6 => ?_) (fun h6 => ?_)
      · exact ag_vrep dX10_sweep_82
      · refine ag_aload_n dX10_sweep_78 rfl ?_
        refine ag_bnd (fun p7 hp7 => ?_)
        refine ag_ivVe (c_X10_endSweep o0 ho0 hp7) vwC_D (vwC_at (kpC_8 _ ho0)) rfl cs_X10_159 rfl rfl (Nat.le_of_ble_eq_true rfl) ⟨by decide, by decide⟩ ⟨Nat.zero_le _, Nat.zero_le _⟩ dX10_sweep_79 ?_
        exact ag_vrep dX10_sweep_82
    · refine ag_loop2 (F := f_X10_sweep_L20 kb k2) (L1 := fun v8 V9 => [some (.ref (bs + posC 8 o0)), some (.int v8)]) (st1 := fun v8 V9 => []) (ws1 := fun v8 V9 => vwC cy bs kb V9) (fun n10 ih11 v8 V9 => ?_) (fun _ _ => rfl) FU 0 V
      rw [f_X10_sweep_L20]
      refine ag_iload_n dX10_sweep_20 rfl ?_
      refine ag_iconst (v := 4) dX10_sweep_21 (by decide) ?_
      refine ag_icmp_ge (tgt := 47) dX10_sweep_22 (by decide) (fun h12 => ?_) (fun h12 => ?_)
      · refine ag_drop [1] (L' := [some (.ref (bs + posC 8 o0)), none]) rfl ?_
        exact hk3 V9
      · refine ag_aload_n dX10_sweep_25 rfl ?_
        refine gC_X10_store ho0 fl_X10_49 dX10_sweep_26 ?_
        refine ag_aload_n dX10_sweep_29 rfl ?_
        refine gC_X10_heap ho0 fl_X10_56 dX10_sweep_30 ?_
        refine gC_X4_next (by decide) fl_X10_146 dX10_sweep_33 ?_
        refine ag_iload_n dX10_sweep_36 rfl ?_
        refine ag_iadd dX10_sweep_37 ?_
        refine ag_bnd (fun p13 hp13 => ?_)
        refine ag_ivVe (c_X8_filterGranule 0 ((V9 307 0 0) + v8) (by decide) hp13) vwC_D (vwC_at (kpC_6 _ (by decide))) rfl cs_X10_152 rfl rfl (Nat.le_of_ble_eq_true rfl) ⟨by decide, by decide⟩ ⟨Nat.zero_le _, Nat.zero_le _⟩ dX10_sweep_38 ?_
        refine ag_iincL (L' := fun v14 => [some (.ref (bs + posC 8 o0)), some (.int v14)]) dX10_sweep_41 (by decide) rfl (by decide) (fun _ => rfl) (fun v14 => ?_)
        refine ag_goto (tgt := 20) dX10_sweep_44 (by decide) ?_
        exact ih11 v14 p13
  · refine ag_aload_n dX10_sweep_10 rfl ?_
    refine gC_X10_heap ho0 fl_X10_56 dX10_sweep_11 ?_
    refine ag_bnd (fun p15 hp15 => ?_)
    refine ag_ivVe (c_X4_beginSweepIfDue 0 (by decide) hp15) vwC_D (vwC_at (kpC_3 _ (by decide))) rfl cs_X10_149 rfl rfl (Nat.le_of_ble_eq_true rfl) ⟨by decide, by decide⟩ ⟨Nat.zero_le _, Nat.zero_le _⟩ dX10_sweep_14 ?_
    exact ag_vrep dX10_sweep_17
set_option maxRecDepth 100000 in
set_option maxHeartbeats 4000000 in
theorem c_X10_part {l : Launch} {D : va_G} {cy : Nat → ClassId} {bs kb : Nat} {V : HV} (o0 : Nat) (x1 : Int32) (ho0 : o0 < 1) {z : Int32} (hz : f_X10_part kb o0 x1 V = z) : CM l (aG 737 bs) D (tyL cy) (vwC cy bs kb) yX10_part cX10_part 2 (some .int) 0 0 tvI [.ref (bs + posC 8 o0), .int x1] V (z, V) := by
  refine cm_of vwC_D (by decide +kernel) (own := RX10) rfl (Nat.le_of_ble_eq_true rfl) (L := [some (.ref (bs + posC 8 o0)), some (.int x1)]) rfl hz (fun Γ => ?_)
  unfold f_X10_part
  refine ag_iload_n dX10_part_0 rfl ?_
  refine ag_if (fun h1 => ?_) (fun h1 => ?_)
  · refine ag_tab (off := 55) (tgt := 56) h1 dX10_part_1 (by decide) (by decide) (by decide) (by decide) ?_
    refine ag_aload_n dX10_part_56 rfl ?_
    refine gC_X10_time ho0 fl_X10_78 dX10_part_57 ?_
    exact ag_irp dX10_part_60
  · refine ag_if (fun h2 => ?_) (fun h2 => ?_)
    · refine ag_tab (off := 60) (tgt := 61) h2 dX10_part_1 (by decide) (by decide) (by decide) (by decide) ?_
      refine ag_aload_n dX10_part_61 rfl ?_
      refine gC_X10_current ho0 fl_X10_42 dX10_part_62 ?_
      exact ag_irp dX10_part_65
    · refine ag_if (fun h3 => ?_) (fun h3 => ?_)
      · refine ag_tab (off := 65) (tgt := 66) h3 dX10_part_1 (by decide) (by decide) (by decide) (by decide) ?_
        refine ag_aload_n dX10_part_66 rfl ?_
        refine gC_X10_faults ho0 fl_X10_84 dX10_part_67 ?_
        exact ag_irp dX10_part_70
      · refine ag_if (fun h4 => ?_) (fun h4 => ?_)
        · refine ag_tab (off := 70) (tgt := 71) h4 dX10_part_1 (by decide) (by decide) (by decide) (by decide) ?_
          refine ag_aload_n dX10_part_71 rfl ?_
          refine gC_X10_calls ho0 fl_X10_87 dX10_part_72 ?_
          exact ag_irp dX10_part_75
        · refine ag_if (fun h5 => ?_) (fun h5 => ?_)
          · refine ag_tab (off := 75) (tgt := 76) h5 dX10_part_1 (by decide) (by decide) (by decide) (by decide) ?_
            refine ag_aload_n dX10_part_76 rfl ?_
            refine gC_X10_services ho0 fl_X10_90 dX10_part_77 ?_
            exact ag_irp dX10_part_80
          · refine ag_if (fun h6 => ?_) (fun h6 => ?_)
            · refine ag_tab (off := 80) (tgt := 81) h6 dX10_part_1 (by decide) (by decide) (by decide) (by decide) ?_
              refine ag_aload_n dX10_part_81 rfl ?_
              refine gC_X10_switches ho0 fl_X10_93 dX10_part_82 ?_
              exact ag_irp dX10_part_85
            · refine ag_if (fun h7 => ?_) (fun h7 => ?_)
              · refine ag_tab (off := 85) (tgt := 86) h7 dX10_part_1 (by decide) (by decide) (by decide) (by decide) ?_
                refine ag_aload_n dX10_part_86 rfl ?_
                refine gC_X10_output ho0 fl_X10_20 dX10_part_87 ?_
                refine gC_X6_length (by decide) fl_X10_200 dX10_part_90 ?_
                exact ag_irp dX10_part_93
              · refine ag_if (fun h8 => ?_) (fun h8 => ?_)
                · refine ag_tab (off := 93) (tgt := 94) h8 dX10_part_1 (by decide) (by decide) (by decide) (by decide) ?_
                  refine ag_aload_n dX10_part_94 rfl ?_
                  refine gC_X10_input ho0 fl_X10_14 dX10_part_95 ?_
                  refine gC_X6_length (by decide) fl_X10_200 dX10_part_98 ?_
                  exact ag_irp dX10_part_101
                · refine ag_if (fun h9 => ?_) (fun h9 => ?_)
                  · refine ag_tab (off := 101) (tgt := 102) h9 dX10_part_1 (by decide) (by decide) (by decide) (by decide) ?_
                    refine ag_aload_n dX10_part_102 rfl ?_
                    refine gC_X10_booted ho0 fl_X10_74 dX10_part_103 ?_
                    refine ag_dv (j := 114) (L1 := fun _ => [some (.ref (bs + posC 8 o0)), some (.int x1)]) (st1 := fun v10 => [.int (b2i v10)]) (ws1 := fun _ => vwC cy bs kb V) (fun v10 => ?_) (fun k12 hk11 => ?_)
                    · exact ag_irp dX10_part_114
                    · refine ag_bif_eq_v (tgt := 113) dX10_part_106 (by decide) (fun h13 => ?_) (fun h13 => ?_)
                      · refine ag_iconst (v := 0) dX10_part_113 (by decide) ?_
                        exact hk11 false
                      · refine ag_iconst (v := 1) dX10_part_109 (by decide) ?_
                        refine ag_goto (tgt := 114) dX10_part_110 (by decide) ?_
                        exact hk11 true
                  · refine ag_hv (j := 115) (L1 := [some (.ref (bs + posC 8 o0)), some (.int x1)]) (st1 := []) (ws1 := vwC cy bs kb V) ?_ (fun hd15 => ?_)
                    · refine ag_iconst (v := (-1)) dX10_part_115 (by decide) ?_
                      exact ag_irp dX10_part_116
                    · by_cases h16 : x1 = 6
                      · exact ag_tab (off := 114) (tgt := 115) h16 dX10_part_1 (by decide) (by decide) (by decide) (by decide) hd15
                      · exact ag_tabD (tgt := 115) dX10_part_1 (by have z0 := lv_neT h1 (k := 0) (a := 0) (by decide); have z1 := lv_neT h2 (k := 1) (a := 1) (by decide); have z2 := lv_neT h3 (k := 2) (a := 2) (by decide); have z3 := lv_neT h4 (k := 3) (a := 3) (by decide); have z4 := lv_neT h5 (k := 4) (a := 4) (by decide); have z5 := lv_neT h6 (k := 5) (a := 5) (by decide); have z6 := lv_neT h7 (k := 7) (a := 7) (by decide); have z7 := lv_neT h8 (k := 8) (a := 8) (by decide); have z8 := lv_neT h9 (k := 9) (a := 9) (by decide); have z9 := lv_neT h16 (k := 6) (a := 6) (by decide); omega) (by decide) hd15
set_option maxRecDepth 100000 in
set_option maxHeartbeats 4000000 in
theorem c_X11_feed {l : Launch} {D : va_G} {cy : Nat → ClassId} {bs kb : Nat} {V : HV} (o0 : Nat) (x1 : Int32) (x2 : Int32) (x3 : Int32) (x4 : Int32) (x5 : Int32) (ho0 : o0 < 1) {z : Bool × HV} (hz : f_X11_feed kb o0 x1 x2 x3 x4 x5 V = some z) : CM l (aG 737 bs) D (tyL cy) (vwC cy bs kb) yX11_feed cX11_feed 6 (some .boolean) 1 22 tvZ [.ref (bs + posC 9 o0), .int x1, .int x2, .int x3, .int x4, .int x5] V z := by
  refine cm_of vwC_D (by decide +kernel) (own := RX11) rfl (Nat.le_of_ble_eq_true rfl) (L := [some (.ref (bs + posC 9 o0)), some (.int x1), some (.int x2), some (.int x3), some (.int x4), some (.int x5)]) rfl hz (fun Γ => ?_)
  unfold f_X11_feed
  refine ag_aload_n dX11_feed_0 rfl ?_
  refine gC_X11_loader ho0 fl_X11_21 dX11_feed_1 ?_
  refine ag_bipush (v := 20) dX11_feed_4 (by decide) ?_
  refine ag_ivZp (c_X5_hasRoom 0 20 (by decide) rfl) vwC_D (vwC_at (kpC_4 _ (by decide))) rfl cs_X11_25 rfl rfl (Nat.le_of_ble_eq_true rfl) ⟨by decide, by decide⟩ ⟨Nat.zero_le _, Nat.zero_le _⟩ dX11_feed_6 ?_
  refine ag_ltZ (fun v1 => ?_)
  refine ag_bif_ne (tgt := 14) dX11_feed_9 (by decide) (fun h2 => ?_) (fun h2 => ?_)
  · refine ag_aload_n dX11_feed_14 rfl ?_
    refine gC_X11_loader ho0 fl_X11_21 dX11_feed_15 ?_
    refine ag_iload_n dX11_feed_18 rfl ?_
    refine ag_bnd (fun p3 hp3 => ?_)
    refine ag_ivVe (c_X5_append 0 x1 (by decide) hp3) vwC_D (vwC_at (kpC_4 _ (by decide))) rfl cs_X11_29 rfl rfl (Nat.le_of_ble_eq_true rfl) ⟨by decide, by decide⟩ ⟨Nat.zero_le _, Nat.zero_le _⟩ dX11_feed_19 ?_
    refine ag_aload_n dX11_feed_22 rfl ?_
    refine gC_X11_loader ho0 fl_X11_21 dX11_feed_23 ?_
    refine ag_iload_n dX11_feed_26 rfl ?_
    refine ag_bnd (fun p4 hp4 => ?_)
    refine ag_ivVe (c_X5_append 0 x2 (by decide) hp4) vwC_D (vwC_at (kpC_4 _ (by decide))) rfl cs_X11_29 rfl rfl (Nat.le_of_ble_eq_true rfl) ⟨by decide, by decide⟩ ⟨Nat.zero_le _, Nat.zero_le _⟩ dX11_feed_27 ?_
    refine ag_aload_n dX11_feed_30 rfl ?_
    refine gC_X11_loader ho0 fl_X11_21 dX11_feed_31 ?_
    refine ag_iload_n dX11_feed_34 rfl ?_
    refine ag_bnd (fun p5 hp5 => ?_)
    refine ag_ivVe (c_X5_append 0 x3 (by decide) hp5) vwC_D (vwC_at (kpC_4 _ (by decide))) rfl cs_X11_29 rfl rfl (Nat.le_of_ble_eq_true rfl) ⟨by decide, by decide⟩ ⟨Nat.zero_le _, Nat.zero_le _⟩ dX11_feed_35 ?_
    refine ag_aload_n dX11_feed_38 rfl ?_
    refine gC_X11_loader ho0 fl_X11_21 dX11_feed_39 ?_
    refine ag_iload dX11_feed_42 rfl ?_
    refine ag_bnd (fun p6 hp6 => ?_)
    refine ag_ivVe (c_X5_append 0 x4 (by decide) hp6) vwC_D (vwC_at (kpC_4 _ (by decide))) rfl cs_X11_29 rfl rfl (Nat.le_of_ble_eq_true rfl) ⟨by decide, by decide⟩ ⟨Nat.zero_le _, Nat.zero_le _⟩ dX11_feed_44 ?_
    refine ag_aload_n dX11_feed_47 rfl ?_
    refine gC_X11_loader ho0 fl_X11_21 dX11_feed_48 ?_
    refine ag_iload dX11_feed_51 rfl ?_
    refine ag_bnd (fun p7 hp7 => ?_)
    refine ag_ivVe (c_X5_append 0 x5 (by decide) hp7) vwC_D (vwC_at (kpC_4 _ (by decide))) rfl cs_X11_29 rfl rfl (Nat.le_of_ble_eq_true rfl) ⟨by decide, by decide⟩ ⟨Nat.zero_le _, Nat.zero_le _⟩ dX11_feed_53 ?_
    refine ag_iconst (v := 1) dX11_feed_56 (by decide) ?_
    exact ag_zrep (x := true) dX11_feed_57
  · refine ag_iconst (v := 0) dX11_feed_12 (by decide) ?_
    exact ag_zrep (x := false) dX11_feed_13
set_option maxRecDepth 100000 in
set_option maxHeartbeats 4000000 in
theorem c_X11_boot {l : Launch} {D : va_G} {cy : Nat → ClassId} {bs kb : Nat} {V : HV} (o0 : Nat) (x1 : Int32) (ho0 : o0 < 1) {z : Int32 × HV} (hz : f_X11_boot kb o0 x1 V = some z) : CM l (aG 737 bs) D (tyL cy) (vwC cy bs kb) yX11_boot cX11_boot 2 (some .int) 7 164 tvI [.ref (bs + posC 9 o0), .int x1] V z := by
  refine cm_of vwC_D (by decide +kernel) (own := RX11) rfl (Nat.le_of_ble_eq_true rfl) (L := [some (.ref (bs + posC 9 o0)), some (.int x1)]) rfl hz (fun Γ => ?_)
  unfold f_X11_boot
  refine ag_iload_n dX11_boot_0 rfl ?_
  refine ag_if_lt (tgt := 15) dX11_boot_1 (by decide) (fun h1 => ?_) (fun h1 => ?_)
  · refine ag_iconst (v := (-1)) dX11_boot_15 (by decide) ?_
    exact ag_irep dX11_boot_16
  · refine ag_iload_n dX11_boot_4 rfl ?_
    refine ag_aload_n dX11_boot_5 rfl ?_
    refine gC_X11_loader ho0 fl_X11_21 dX11_boot_6 ?_
    refine gC_X5_length (by decide) fl_X11_32 dX11_boot_9 ?_
    refine ag_icmp_le (tgt := 17) dX11_boot_12 (by decide) (fun h2 => ?_) (fun h2 => ?_)
    · refine ag_aload_n dX11_boot_17 rfl ?_
      refine gC_X11_loader ho0 fl_X11_21 dX11_boot_18 ?_
      refine ag_aload_n dX11_boot_21 rfl ?_
      refine gC_X11_world ho0 fl_X11_14 dX11_boot_22 ?_
      refine ag_iload_n dX11_boot_25 rfl ?_
      refine ag_bnd (fun p3 hp3 => ?_)
      refine ag_ivIe (c_X5_load 0 0 x1 (by decide) (by decide) hp3) vwC_D (vwC_at (kpC_4 _ (by decide))) rfl cs_X11_36 rfl rfl (Nat.le_of_ble_eq_true rfl) ⟨by decide, by decide⟩ ⟨Nat.zero_le _, Nat.zero_le _⟩ dX11_boot_26 ?_
      exact ag_irep dX11_boot_29
    · refine ag_iconst (v := (-1)) dX11_boot_15 (by decide) ?_
      exact ag_irep dX11_boot_16
set_option maxRecDepth 100000 in
set_option maxHeartbeats 4000000 in
theorem c_X11_place {l : Launch} {D : va_G} {cy : Nat → ClassId} {bs kb : Nat} {V : HV} (o0 : Nat) (ho0 : o0 < 1) {z : Int32} (hz : f_X11_place kb o0 V = z) : CM l (aG 737 bs) D (tyL cy) (vwC cy bs kb) yX11_place cX11_place 1 (some .int) 0 0 tvI [.ref (bs + posC 9 o0)] V (z, V) := by
  refine cm_of vwC_D (by decide +kernel) (own := RX11) rfl (Nat.le_of_ble_eq_true rfl) (L := [some (.ref (bs + posC 9 o0))]) rfl hz (fun Γ => ?_)
  unfold f_X11_place
  refine ag_aload_n dX11_place_0 rfl ?_
  refine gC_X11_loader ho0 fl_X11_21 dX11_place_1 ?_
  refine gC_X5_place (by decide) fl_X11_40 dX11_place_4 ?_
  exact ag_irp dX11_place_7
set_option maxRecDepth 100000 in
set_option maxHeartbeats 4000000 in
theorem c_X11_run {l : Launch} {D : va_G} {cy : Nat → ClassId} {bs kb : Nat} {V : HV} (o0 : Nat) (x1 : Int32) (ho0 : o0 < 1) {z : Int32 × HV} (hz : f_X11_run kb o0 x1 V = some z) : CM l (aG 737 bs) D (tyL cy) (vwC cy bs kb) yX11_run cX11_run 3 (some .int) 7 167 tvI [.ref (bs + posC 9 o0), .int x1] V z := by
  refine cm_of vwC_D (by decide +kernel) (own := RX11) rfl (Nat.le_of_ble_eq_true rfl) (L := [some (.ref (bs + posC 9 o0)), some (.int x1), none]) rfl hz (fun Γ => ?_)
  unfold f_X11_run
  refine ag_iload_n dX11_run_0 rfl ?_
  refine ag_if_lt (tgt := 11) dX11_run_1 (by decide) (fun h1 => ?_) (fun h1 => ?_)
  · refine ag_iconst (v := (-1)) dX11_run_11 (by decide) ?_
    exact ag_irep dX11_run_12
  · refine ag_iload_n dX11_run_4 rfl ?_
    refine ag_sipush (v := 5000) dX11_run_5 (by decide) ?_
    refine ag_icmp_le (tgt := 13) dX11_run_8 (by decide) (fun h2 => ?_) (fun h2 => ?_)
    · refine ag_iconst (v := 0) dX11_run_13 (by decide) ?_
      refine ag_istore_n (L' := [some (.ref (bs + posC 9 o0)), some (.int x1), some (.int 0)]) dX11_run_14 (by decide) rfl ?_
      refine ag_jn2 (j := 57) (L1 := fun v5 V6 => [some (.ref (bs + posC 9 o0)), some (.int x1), some (.int v5)]) (st1 := fun v5 V6 => []) (ws1 := fun v5 V6 => vwC cy bs kb V6) (fun v5 V6 => ?_) (fun k3 hk4 => ?_)
      · refine ag_iload_n dX11_run_57 rfl ?_
        exact ag_irep dX11_run_58
      · refine ag_loop2 (F := f_X11_run_L15 x1 kb k3) (L1 := fun v7 V8 => [some (.ref (bs + posC 9 o0)), some (.int x1), some (.int v7)]) (st1 := fun v7 V8 => []) (ws1 := fun v7 V8 => vwC cy bs kb V8) (fun n9 ih10 v7 V8 => ?_) (fun _ _ => rfl) FU 0 V
        rw [f_X11_run_L15]
        refine ag_iload_n dX11_run_15 rfl ?_
        refine ag_iload_n dX11_run_16 rfl ?_
        refine ag_icmp_ge (tgt := 57) dX11_run_17 (by decide) (fun h11 => ?_) (fun h11 => ?_)
        · exact hk4 v7 V8
        · refine ag_aload_n dX11_run_20 rfl ?_
          refine gC_X11_world ho0 fl_X11_14 dX11_run_21 ?_
          refine ag_bnd (fun p12 hp12 => ?_)
          refine ag_ivZp (c_X10_stands 0 (by decide) hp12) vwC_D (vwC_at (kpC_8 _ (by decide))) rfl cs_X11_43 rfl rfl (Nat.le_of_ble_eq_true rfl) ⟨by decide, by decide⟩ ⟨Nat.zero_le _, Nat.zero_le _⟩ dX11_run_24 ?_
          refine ag_bif_ne (tgt := 57) dX11_run_27 (by decide) (fun h13 => ?_) (fun h13 => ?_)
          · exact hk4 v7 V8
          · refine ag_aload_n dX11_run_30 rfl ?_
            refine gC_X11_world ho0 fl_X11_14 dX11_run_31 ?_
            refine ag_bnd (fun p14 hp14 => ?_)
            refine ag_ivVe (c_X10_tick 0 (by decide) hp14) vwC_D (vwC_at (kpC_8 _ (by decide))) rfl cs_X11_47 rfl rfl (Nat.le_of_ble_eq_true rfl) ⟨by decide, by decide⟩ ⟨Nat.zero_le _, Nat.zero_le _⟩ dX11_run_34 ?_
            refine ag_aload_n dX11_run_37 rfl ?_
            refine gC_X11_world ho0 fl_X11_14 dX11_run_38 ?_
            refine ag_bnd (fun p15 hp15 => ?_)
            refine ag_isVe (c_X2_instruction 0 (by decide) hp15) vwC_D cs_X11_50 rfl rfl (Nat.le_of_ble_eq_true rfl) ⟨by decide, by decide⟩ ⟨Nat.zero_le _, Nat.zero_le _⟩ dX11_run_41 ?_
            refine ag_aload_n dX11_run_44 rfl ?_
            refine gC_X11_world ho0 fl_X11_14 dX11_run_45 ?_
            refine ag_bnd (fun p16 hp16 => ?_)
            refine ag_ivVe (c_X10_sweep 0 (by decide) hp16) vwC_D (vwC_at (kpC_8 _ (by decide))) rfl cs_X11_56 rfl rfl (Nat.le_of_ble_eq_true rfl) ⟨by decide, by decide⟩ ⟨Nat.zero_le _, Nat.zero_le _⟩ dX11_run_48 ?_
            refine ag_iincL (L' := fun v17 => [some (.ref (bs + posC 9 o0)), some (.int x1), some (.int v17)]) dX11_run_51 (by decide) rfl (by decide) (fun _ => rfl) (fun v17 => ?_)
            refine ag_goto (tgt := 15) dX11_run_54 (by decide) ?_
            exact ih10 v17 p16
    · refine ag_iconst (v := (-1)) dX11_run_11 (by decide) ?_
      exact ag_irep dX11_run_12
set_option maxRecDepth 100000 in
set_option maxHeartbeats 4000000 in
theorem c_X11_input {l : Launch} {D : va_G} {cy : Nat → ClassId} {bs kb : Nat} {V : HV} (o0 : Nat) (x1 : Int32) (ho0 : o0 < 1) {z : Bool × HV} (hz : f_X11_input kb o0 x1 V = some z) : CM l (aG 737 bs) D (tyL cy) (vwC cy bs kb) yX11_input cX11_input 2 (some .boolean) 3 64 tvZ [.ref (bs + posC 9 o0), .int x1] V z := by
  refine cm_of vwC_D (by decide +kernel) (own := RX11) rfl (Nat.le_of_ble_eq_true rfl) (L := [some (.ref (bs + posC 9 o0)), some (.int x1)]) rfl hz (fun Γ => ?_)
  unfold f_X11_input
  refine ag_iload_n dX11_input_0 rfl ?_
  refine ag_if_lt (tgt := 36) dX11_input_1 (by decide) (fun h1 => ?_) (fun h1 => ?_)
  · refine ag_iconst (v := 0) dX11_input_36 (by decide) ?_
    exact ag_zrep (x := false) dX11_input_37
  · refine ag_iload_n dX11_input_4 rfl ?_
    refine ag_sipush (v := 255) dX11_input_5 (by decide) ?_
    refine ag_icmp_gt (tgt := 36) dX11_input_8 (by decide) (fun h2 => ?_) (fun h2 => ?_)
    · refine ag_iconst (v := 0) dX11_input_36 (by decide) ?_
      exact ag_zrep (x := false) dX11_input_37
    · refine ag_aload_n dX11_input_11 rfl ?_
      refine gC_X11_world ho0 fl_X11_14 dX11_input_12 ?_
      refine gC_X10_booted (by decide) fl_X11_59 dX11_input_15 ?_
      refine ag_bif_eq (tgt := 36) dX11_input_18 (by decide) (fun h3 => ?_) (fun h3 => ?_)
      · refine ag_iconst (v := 0) dX11_input_36 (by decide) ?_
        exact ag_zrep (x := false) dX11_input_37
      · refine ag_aload_n dX11_input_21 rfl ?_
        refine gC_X11_world ho0 fl_X11_14 dX11_input_22 ?_
        refine gC_X10_input (by decide) fl_X11_63 dX11_input_25 ?_
        refine gC_X6_length (by decide) fl_X11_67 dX11_input_28 ?_
        refine ag_bipush (v := 64) dX11_input_31 (by decide) ?_
        refine ag_icmp_lt (tgt := 38) dX11_input_33 (by decide) (fun h4 => ?_) (fun h4 => ?_)
        · refine ag_aload_n dX11_input_38 rfl ?_
          refine gC_X11_world ho0 fl_X11_14 dX11_input_39 ?_
          refine gC_X10_input (by decide) fl_X11_63 dX11_input_42 ?_
          refine ag_iload_n dX11_input_45 rfl ?_
          refine ag_bnd (fun p5 hp5 => ?_)
          refine ag_ivVe (c_X6_push 0 x1 (by decide) hp5) vwC_D (vwC_at (kpC_5 _ (by decide))) rfl cs_X11_70 rfl rfl (Nat.le_of_ble_eq_true rfl) ⟨by decide, by decide⟩ ⟨Nat.zero_le _, Nat.zero_le _⟩ dX11_input_46 ?_
          refine ag_iconst (v := 1) dX11_input_49 (by decide) ?_
          exact ag_zrep (x := true) dX11_input_50
        · refine ag_iconst (v := 0) dX11_input_36 (by decide) ?_
          exact ag_zrep (x := false) dX11_input_37
set_option maxRecDepth 100000 in
set_option maxHeartbeats 4000000 in
theorem c_X11_fetch {l : Launch} {D : va_G} {cy : Nat → ClassId} {bs kb : Nat} {V : HV} (o0 : Nat) (ho0 : o0 < 1) {z : Int64 × HV} (hz : f_X11_fetch kb o0 V = some z) : CM l (aG 737 bs) D (tyL cy) (vwC cy bs kb) yX11_fetch cX11_fetch 5 (some .long) 2 42 tvJ [.ref (bs + posC 9 o0)] V z := by
  refine cm_of vwC_D (by decide +kernel) (own := RX11) rfl (Nat.le_of_ble_eq_true rfl) (L := [some (.ref (bs + posC 9 o0)), none, none, none, none]) rfl hz (fun Γ => ?_)
  unfold f_X11_fetch
  refine ag_bipush (v := 7) dX11_fetch_0 (by decide) ?_
  refine ag_aload_n dX11_fetch_2 rfl ?_
  refine gC_X11_world ho0 fl_X11_14 dX11_fetch_3 ?_
  refine gC_X10_output (by decide) fl_X11_73 dX11_fetch_6 ?_
  refine gC_X6_length (by decide) fl_X11_67 dX11_fetch_9 ?_
  refine ag_isIp (c_J9_min_7cf53 7 (V 502 1 0)  rfl) vwC_D cs_X11_76 rfl rfl (Nat.le_of_ble_eq_true rfl) ⟨by decide, by decide⟩ ⟨Nat.zero_le _, Nat.zero_le _⟩ dX11_fetch_12 ?_
  refine ag_ltI (fun v1 => ?_)
  refine ag_istore_n (L' := [some (.ref (bs + posC 9 o0)), some (.int v1), none, none, none]) dX11_fetch_15 (by decide) rfl ?_
  refine ag_iload_n dX11_fetch_16 rfl ?_
  refine ag_i2l dX11_fetch_17 ?_
  refine ag_bipush (v := 56) dX11_fetch_18 (by decide) ?_
  refine ag_lshl dX11_fetch_20 ?_
  refine ag_ltJ (fun v2 => ?_)
  refine ag_lstore_n (L' := [some (.ref (bs + posC 9 o0)), some (.int v1), some (.long v2), none, none]) dX11_fetch_21 (by decide) rfl ?_
  refine ag_iconst (v := 0) dX11_fetch_22 (by decide) ?_
  refine ag_istore (L' := [some (.ref (bs + posC 9 o0)), some (.int v1), some (.long v2), none, some (.int 0)]) dX11_fetch_23 (by decide) rfl ?_
  refine ag_jn2 (j := 60) (L1 := fun v5 V6 => [some (.ref (bs + posC 9 o0)), some (.int v1), some (.long v5), none, none]) (st1 := fun v5 V6 => []) (ws1 := fun v5 V6 => vwC cy bs kb V6) (fun v5 V6 => ?_) (fun k3 hk4 => ?_)
  · refine ag_lload_n dX11_fetch_60 rfl ?_
    exact ag_lrep dX11_fetch_61
  · refine ag_loop3 (F := f_X11_fetch_L25 kb v1 k3) (L1 := fun v7 v8 V9 => [some (.ref (bs + posC 9 o0)), some (.int v1), some (.long v7), none, some (.int v8)]) (st1 := fun v7 v8 V9 => []) (ws1 := fun v7 v8 V9 => vwC cy bs kb V9) (fun n10 ih11 v7 v8 V9 => ?_) (fun _ _ _ => rfl) FU v2 0 V
    rw [f_X11_fetch_L25]
    refine ag_iload dX11_fetch_25 rfl ?_
    refine ag_iload_n dX11_fetch_27 rfl ?_
    refine ag_icmp_ge (tgt := 60) dX11_fetch_28 (by decide) (fun h12 => ?_) (fun h12 => ?_)
    · refine ag_drop [4] (L' := [some (.ref (bs + posC 9 o0)), some (.int v1), some (.long v7), none, none]) rfl ?_
      exact hk4 v7 V9
    · refine ag_lload_n dX11_fetch_31 rfl ?_
      refine ag_aload_n dX11_fetch_32 rfl ?_
      refine gC_X11_world ho0 fl_X11_14 dX11_fetch_33 ?_
      refine gC_X10_output (by decide) fl_X11_73 dX11_fetch_36 ?_
      refine ag_bnd (fun p13 hp13 => ?_)
      refine ag_ivIe (c_X6_pull 1 (by decide) hp13) vwC_D (vwC_at (kpC_5 _ (by decide))) rfl cs_X11_82 rfl rfl (Nat.le_of_ble_eq_true rfl) ⟨by decide, by decide⟩ ⟨Nat.zero_le _, Nat.zero_le _⟩ dX11_fetch_39 ?_
      refine ag_i2l dX11_fetch_42 ?_
      refine ag_bipush (v := 48) dX11_fetch_43 (by decide) ?_
      refine ag_bipush (v := 8) dX11_fetch_45 (by decide) ?_
      refine ag_iload dX11_fetch_47 rfl ?_
      refine ag_imul dX11_fetch_49 ?_
      refine ag_isub dX11_fetch_50 ?_
      refine ag_lshl dX11_fetch_51 ?_
      refine ag_lor dX11_fetch_52 ?_
      refine ag_ltJ (fun v14 => ?_)
      refine ag_lstore_n (L' := [some (.ref (bs + posC 9 o0)), some (.int v1), some (.long v14), none, some (.int v8)]) dX11_fetch_53 (by decide) rfl ?_
      refine ag_iincL (L' := fun v15 => [some (.ref (bs + posC 9 o0)), some (.int v1), some (.long v14), none, some (.int v15)]) dX11_fetch_54 (by decide) rfl (by decide) (fun _ => rfl) (fun v15 => ?_)
      refine ag_goto (tgt := 25) dX11_fetch_57 (by decide) ?_
      exact ih11 v14 v15 p13.2
set_option maxRecDepth 100000 in
set_option maxHeartbeats 4000000 in
theorem c_X11_register {l : Launch} {D : va_G} {cy : Nat → ClassId} {bs kb : Nat} {V : HV} (o0 : Nat) (x1 : Int32) (x2 : Int32) (x3 : Int32) (ho0 : o0 < 1) {z : Int64} (hz : f_X11_register kb o0 x1 x2 x3 V = some z) : CM l (aG 737 bs) D (tyL cy) (vwC cy bs kb) yX11_register cX11_register 5 (some .long) 2 41 tvJ [.ref (bs + posC 9 o0), .int x1, .int x2, .int x3] V (z, V) := by
  refine cm_of vwC_D (by decide +kernel) (own := RX11) rfl (Nat.le_of_ble_eq_true rfl) (L := [some (.ref (bs + posC 9 o0)), some (.int x1), some (.int x2), some (.int x3), none]) rfl hz (fun Γ => ?_)
  unfold f_X11_register
  refine ag_aload_n dX11_register_0 rfl ?_
  refine gC_X11_world ho0 fl_X11_14 dX11_register_1 ?_
  refine ag_iload_n dX11_register_4 rfl ?_
  refine ag_bnd (fun p1 hp1 => ?_)
  refine ag_ivOp (c_X10_taskAt 0 x1 (by decide) hp1) vwC_D (vwC_at (kpC_8 _ (by decide))) rfl cs_X11_86 rfl rfl (Nat.le_of_ble_eq_true rfl) ⟨by decide, by decide⟩ ⟨Nat.zero_le _, Nat.zero_le _⟩ dX11_register_5 ?_
  refine ag_ostore (L' := [some (.ref (bs + posC 9 o0)), some (.int x1), some (.int x2), some (.int x3), some (va_rf (p1.map (fun x => bs + posC 7 x)))]) dX11_register_8 (by decide) rfl ?_
  refine ag_oload dX11_register_10 rfl ?_
  refine ag_ifnull (tgt := 25) dX11_register_12 (by decide) (fun eh3 => ?_) (fun a2 eh3 => ?_)
  · subst eh3
    refine ag_Lc (L' := [some (.ref (bs + posC 9 o0)), some (.int x1), some (.int x2), some (.int x3), some (.null)]) rfl ?_
    refine ag_ldc2 kc_X11_90 dX11_register_25 ?_
    exact ag_lrpp dX11_register_28
  · subst eh3
    refine ag_chk (fun h3 => ?_)
    refine ag_Lc (L' := [some (.ref (bs + posC 9 o0)), some (.int x1), some (.int x2), some (.int x3), some (.ref (bs + posC 7 a2))]) rfl ?_
    refine ag_iload_n dX11_register_15 rfl ?_
    refine ag_if_lt (tgt := 25) dX11_register_16 (by decide) (fun h4 => ?_) (fun h4 => ?_)
    · refine ag_ldc2 kc_X11_90 dX11_register_25 ?_
      exact ag_lrpp dX11_register_28
    · refine ag_iload_n dX11_register_19 rfl ?_
      refine ag_bipush (v := 16) dX11_register_20 (by decide) ?_
      refine ag_icmp_le (tgt := 29) dX11_register_22 (by decide) (fun h5 => ?_) (fun h5 => ?_)
      · refine ag_iload_n dX11_register_29 rfl ?_
        refine ag_bipush (v := 16) dX11_register_30 (by decide) ?_
        refine ag_jn1 (j := 49) (L1 := fun a6 => [some (.ref (bs + posC 9 o0)), some (.int x1), some (.int x2), some (.int x3), some (.ref (bs + posC 7 a2))]) (st1 := fun a6 => [.ref (bs + posC 0 a6)]) (ws1 := fun a6 => vwC cy bs kb V) (fun a6 => ?_) (fun k7 hk8 => ?_)
        · refine ag_chk (fun h9 => ?_)
          refine ag_iload_n dX11_register_49 rfl ?_
          refine ag_ivJp (c_X0_part a6 x3 h9 rfl) vwC_D (vwC_at (kpC_0 _ h9)) rfl cs_X11_102 rfl rfl (Nat.le_of_ble_eq_true rfl) ⟨by decide, by decide⟩ ⟨Nat.zero_le _, Nat.zero_le _⟩ dX11_register_50 ?_
          refine ag_ltJ (fun v10 => ?_)
          exact ag_lrpp dX11_register_53
        · refine ag_icmp_ne (tgt := 43) dX11_register_32 (by decide) (fun h11 => ?_) (fun h11 => ?_)
          · refine ag_aload dX11_register_43 rfl ?_
            refine ag_iload_n dX11_register_45 rfl ?_
            refine ag_ivRp (c_X9_reg a2 x2 h3 rfl) vwC_D (vwC_at (kpC_7 _ h3)) rfl cs_X11_98 rfl rfl (Nat.le_of_ble_eq_true rfl) ⟨by decide, by decide⟩ ⟨Nat.zero_le _, Nat.zero_le _⟩ dX11_register_46 ?_
            exact hk8 (f_X9_reg a2 x2)
          · refine ag_aload dX11_register_35 rfl ?_
            refine gC_X9_pcc h3 fl_X11_92 dX11_register_37 ?_
            refine ag_goto (tgt := 49) dX11_register_40 (by decide) ?_
            exact hk8 (17 * a2 + 16)
      · refine ag_ldc2 kc_X11_90 dX11_register_25 ?_
        exact ag_lrpp dX11_register_28
set_option maxRecDepth 100000 in
set_option maxHeartbeats 4000000 in
theorem c_X11_memory {l : Launch} {D : va_G} {cy : Nat → ClassId} {bs kb : Nat} {V : HV} (o0 : Nat) (x1 : Int32) (x2 : Int32) (ho0 : o0 < 1) {z : Int64} (hz : f_X11_memory kb o0 x1 x2 V = some z) : CM l (aG 737 bs) D (tyL cy) (vwC cy bs kb) yX11_memory cX11_memory 3 (some .long) 2 46 tvJ [.ref (bs + posC 9 o0), .int x1, .int x2] V (z, V) := by
  refine cm_of vwC_D (by decide +kernel) (own := RX11) rfl (Nat.le_of_ble_eq_true rfl) (L := [some (.ref (bs + posC 9 o0)), some (.int x1), some (.int x2)]) rfl hz (fun Γ => ?_)
  unfold f_X11_memory
  refine ag_iload_n dX11_memory_0 rfl ?_
  refine ag_iconst (v := 1) dX11_memory_1 (by decide) ?_
  refine ag_jn0 (j := 15) (L1 := [some (.ref (bs + posC 9 o0)), some (.int x1), some (.int x2)]) (st1 := []) (ws1 := vwC cy bs kb V) (?_) (fun k1 hk2 => ?_)
  · refine ag_aload_n dX11_memory_15 rfl ?_
    refine gC_X11_world ho0 fl_X11_14 dX11_memory_16 ?_
    refine gC_X10_booted (by decide) fl_X11_59 dX11_memory_19 ?_
    refine ag_bif_eq (tgt := 40) dX11_memory_22 (by decide) (fun h3 => ?_) (fun h3 => ?_)
    · refine ag_ldc2 kc_X11_90 dX11_memory_40 ?_
      exact ag_lrpp dX11_memory_43
    · refine ag_aload_n dX11_memory_25 rfl ?_
      refine gC_X11_world ho0 fl_X11_14 dX11_memory_26 ?_
      refine gC_X10_store (by decide) fl_X11_108 dX11_memory_29 ?_
      refine ag_iload_n dX11_memory_32 rfl ?_
      refine ag_iload_n dX11_memory_33 rfl ?_
      refine ag_ivZp (c_X8_has 0 x1 x2 (by decide) rfl) vwC_D (vwC_at (kpC_6 _ (by decide))) rfl cs_X11_112 rfl rfl (Nat.le_of_ble_eq_true rfl) ⟨by decide, by decide⟩ ⟨Nat.zero_le _, Nat.zero_le _⟩ dX11_memory_34 ?_
      refine ag_ltZ (fun v4 => ?_)
      refine ag_bif_ne (tgt := 44) dX11_memory_37 (by decide) (fun h5 => ?_) (fun h5 => ?_)
      · refine ag_aload_n dX11_memory_44 rfl ?_
        refine gC_X11_world ho0 fl_X11_14 dX11_memory_45 ?_
        refine gC_X10_store (by decide) fl_X11_108 dX11_memory_48 ?_
        refine ag_iload_n dX11_memory_51 rfl ?_
        refine ag_iload_n dX11_memory_52 rfl ?_
        refine ag_bnd (fun p6 hp6 => ?_)
        refine ag_ivIp (c_X8_load 0 x1 x2 (by decide) hp6) vwC_D (vwC_at (kpC_6 _ (by decide))) rfl cs_X11_118 rfl rfl (Nat.le_of_ble_eq_true rfl) ⟨by decide, by decide⟩ ⟨Nat.zero_le _, Nat.zero_le _⟩ dX11_memory_53 ?_
        refine ag_isJp (c_X11_unsigned p6  rfl) vwC_D cs_X11_120 rfl rfl (Nat.le_of_ble_eq_true rfl) ⟨by decide, by decide⟩ ⟨Nat.zero_le _, Nat.zero_le _⟩ dX11_memory_56 ?_
        refine ag_ltJ (fun v7 => ?_)
        exact ag_lrpp dX11_memory_59
      · refine ag_ldc2 kc_X11_90 dX11_memory_40 ?_
        exact ag_lrpp dX11_memory_43
  · refine ag_icmp_eq (tgt := 15) dX11_memory_2 (by decide) (fun h8 => ?_) (fun h8 => ?_)
    · exact hk2
    · refine ag_iload_n dX11_memory_5 rfl ?_
      refine ag_iconst (v := 2) dX11_memory_6 (by decide) ?_
      refine ag_icmp_eq (tgt := 15) dX11_memory_7 (by decide) (fun h9 => ?_) (fun h9 => ?_)
      · exact hk2
      · refine ag_iload_n dX11_memory_10 rfl ?_
        refine ag_iconst (v := 4) dX11_memory_11 (by decide) ?_
        refine ag_icmp_ne (tgt := 40) dX11_memory_12 (by decide) (fun h10 => ?_) (fun h10 => ?_)
        · refine ag_ldc2 kc_X11_90 dX11_memory_40 ?_
          exact ag_lrpp dX11_memory_43
        · exact hk2
set_option maxRecDepth 100000 in
set_option maxHeartbeats 4000000 in
theorem c_X11_tag {l : Launch} {D : va_G} {cy : Nat → ClassId} {bs kb : Nat} {V : HV} (o0 : Nat) (x1 : Int32) (ho0 : o0 < 1) {z : Int32} (hz : f_X11_tag kb o0 x1 V = some z) : CM l (aG 737 bs) D (tyL cy) (vwC cy bs kb) yX11_tag cX11_tag 2 (some .int) 0 0 tvI [.ref (bs + posC 9 o0), .int x1] V (z, V) := by
  refine cm_of vwC_D (by decide +kernel) (own := RX11) rfl (Nat.le_of_ble_eq_true rfl) (L := [some (.ref (bs + posC 9 o0)), some (.int x1)]) rfl hz (fun Γ => ?_)
  unfold f_X11_tag
  refine ag_aload_n dX11_tag_0 rfl ?_
  refine gC_X11_world ho0 fl_X11_14 dX11_tag_1 ?_
  refine gC_X10_booted (by decide) fl_X11_59 dX11_tag_4 ?_
  refine ag_bif_eq (tgt := 29) dX11_tag_7 (by decide) (fun h1 => ?_) (fun h1 => ?_)
  · refine ag_iconst (v := (-1)) dX11_tag_29 (by decide) ?_
    exact ag_irpp dX11_tag_30
  · refine ag_iload_n dX11_tag_10 rfl ?_
    refine ag_if_lt (tgt := 29) dX11_tag_11 (by decide) (fun h2 => ?_) (fun h2 => ?_)
    · refine ag_iconst (v := (-1)) dX11_tag_29 (by decide) ?_
      exact ag_irpp dX11_tag_30
    · refine ag_iload_n dX11_tag_14 rfl ?_
      refine ag_aload_n dX11_tag_15 rfl ?_
      refine gC_X11_world ho0 fl_X11_14 dX11_tag_16 ?_
      refine gC_X10_store (by decide) fl_X11_108 dX11_tag_19 ?_
      refine gC_X8_marks (by decide) fl_X11_123 dX11_tag_22 ?_
      refine nC_24 (by decide) dX11_tag_25 ?_
      refine ag_icmp_lt (tgt := 31) dX11_tag_26 (by decide) (fun h3 => ?_) (fun h3 => ?_)
      · refine ag_aload_n dX11_tag_31 rfl ?_
        refine gC_X11_world ho0 fl_X11_14 dX11_tag_32 ?_
        refine gC_X10_store (by decide) fl_X11_108 dX11_tag_35 ?_
        refine gC_X8_marks (by decide) fl_X11_123 dX11_tag_38 ?_
        refine ag_iload_n dX11_tag_41 rfl ?_
        refine ag_chk (fun h4 => ?_)
        refine aC_24 (by decide) h4 dX11_tag_42 ?_
        exact ag_irpp dX11_tag_43
      · refine ag_iconst (v := (-1)) dX11_tag_29 (by decide) ?_
        exact ag_irpp dX11_tag_30
set_option maxRecDepth 100000 in
set_option maxHeartbeats 4000000 in
theorem c_X11_thread {l : Launch} {D : va_G} {cy : Nat → ClassId} {bs kb : Nat} {V : HV} (o0 : Nat) (x1 : Int32) (x2 : Int32) (ho0 : o0 < 1) {z : Int32} (hz : f_X11_thread kb o0 x1 x2 V = some z) : CM l (aG 737 bs) D (tyL cy) (vwC cy bs kb) yX11_thread cX11_thread 4 (some .int) 1 21 tvI [.ref (bs + posC 9 o0), .int x1, .int x2] V (z, V) := by
  refine cm_of vwC_D (by decide +kernel) (own := RX11) rfl (Nat.le_of_ble_eq_true rfl) (L := [some (.ref (bs + posC 9 o0)), some (.int x1), some (.int x2), none]) rfl hz (fun Γ => ?_)
  unfold f_X11_thread
  refine ag_aload_n dX11_thread_0 rfl ?_
  refine gC_X11_world ho0 fl_X11_14 dX11_thread_1 ?_
  refine ag_iload_n dX11_thread_4 rfl ?_
  refine ag_bnd (fun p1 hp1 => ?_)
  refine ag_ivOp (c_X10_taskAt 0 x1 (by decide) hp1) vwC_D (vwC_at (kpC_8 _ (by decide))) rfl cs_X11_86 rfl rfl (Nat.le_of_ble_eq_true rfl) ⟨by decide, by decide⟩ ⟨Nat.zero_le _, Nat.zero_le _⟩ dX11_thread_5 ?_
  refine ag_ostore_n (L' := [some (.ref (bs + posC 9 o0)), some (.int x1), some (.int x2), some (va_rf (p1.map (fun x => bs + posC 7 x)))]) dX11_thread_8 (by decide) rfl ?_
  refine ag_oload_n dX11_thread_9 rfl ?_
  refine ag_ifnonnull (tgt := 17) dX11_thread_10 (by decide) (fun a2 eh3 => ?_) (fun eh3 => ?_)
  · subst eh3
    refine ag_chk (fun h3 => ?_)
    refine ag_Lc (L' := [some (.ref (bs + posC 9 o0)), some (.int x1), some (.int x2), some (.ref (bs + posC 7 a2))]) rfl ?_
    refine ag_aload_n dX11_thread_17 rfl ?_
    refine ag_iload_n dX11_thread_18 rfl ?_
    refine ag_ivIp (c_X9_part a2 x2 h3 rfl) vwC_D (vwC_at (kpC_7 _ h3)) rfl cs_X11_127 rfl rfl (Nat.le_of_ble_eq_true rfl) ⟨by decide, by decide⟩ ⟨Nat.zero_le _, Nat.zero_le _⟩ dX11_thread_19 ?_
    refine ag_ltI (fun v4 => ?_)
    exact ag_irpp dX11_thread_22
  · subst eh3
    refine ag_Lc (L' := [some (.ref (bs + posC 9 o0)), some (.int x1), some (.int x2), some (.null)]) rfl ?_
    refine ag_iconst (v := (-1)) dX11_thread_13 (by decide) ?_
    refine ag_goto (tgt := 22) dX11_thread_14 (by decide) ?_
    exact ag_irpp dX11_thread_22
set_option maxRecDepth 100000 in
set_option maxHeartbeats 4000000 in
theorem c_X11_compartment {l : Launch} {D : va_G} {cy : Nat → ClassId} {bs kb : Nat} {V : HV} (o0 : Nat) (x1 : Int32) (x2 : Int32) (ho0 : o0 < 1) {z : Int32} (hz : f_X11_compartment kb o0 x1 x2 V = some z) : CM l (aG 737 bs) D (tyL cy) (vwC cy bs kb) yX11_compartment cX11_compartment 4 (some .int) 1 21 tvI [.ref (bs + posC 9 o0), .int x1, .int x2] V (z, V) := by
  refine cm_of vwC_D (by decide +kernel) (own := RX11) rfl (Nat.le_of_ble_eq_true rfl) (L := [some (.ref (bs + posC 9 o0)), some (.int x1), some (.int x2), none]) rfl hz (fun Γ => ?_)
  unfold f_X11_compartment
  refine ag_aload_n dX11_compartment_0 rfl ?_
  refine gC_X11_world ho0 fl_X11_14 dX11_compartment_1 ?_
  refine ag_iload_n dX11_compartment_4 rfl ?_
  refine ag_bnd (fun p1 hp1 => ?_)
  refine ag_ivOp (c_X10_compartmentAt 0 x1 (by decide) hp1) vwC_D (vwC_at (kpC_8 _ (by decide))) rfl cs_X11_130 rfl rfl (Nat.le_of_ble_eq_true rfl) ⟨by decide, by decide⟩ ⟨Nat.zero_le _, Nat.zero_le _⟩ dX11_compartment_5 ?_
  refine ag_ostore_n (L' := [some (.ref (bs + posC 9 o0)), some (.int x1), some (.int x2), some (va_rf (p1.map (fun x => bs + posC 1 x)))]) dX11_compartment_8 (by decide) rfl ?_
  refine ag_oload_n dX11_compartment_9 rfl ?_
  refine ag_ifnonnull (tgt := 17) dX11_compartment_10 (by decide) (fun a2 eh3 => ?_) (fun eh3 => ?_)
  · subst eh3
    refine ag_chk (fun h3 => ?_)
    refine ag_Lc (L' := [some (.ref (bs + posC 9 o0)), some (.int x1), some (.int x2), some (.ref (bs + posC 1 a2))]) rfl ?_
    refine ag_aload_n dX11_compartment_17 rfl ?_
    refine ag_iload_n dX11_compartment_18 rfl ?_
    refine ag_ivIp (c_X1_part a2 x2 h3 rfl) vwC_D (vwC_at (kpC_1 _ h3)) rfl cs_X11_134 rfl rfl (Nat.le_of_ble_eq_true rfl) ⟨by decide, by decide⟩ ⟨Nat.zero_le _, Nat.zero_le _⟩ dX11_compartment_19 ?_
    refine ag_ltI (fun v4 => ?_)
    exact ag_irpp dX11_compartment_22
  · subst eh3
    refine ag_Lc (L' := [some (.ref (bs + posC 9 o0)), some (.int x1), some (.int x2), some (.null)]) rfl ?_
    refine ag_iconst (v := (-1)) dX11_compartment_13 (by decide) ?_
    refine ag_goto (tgt := 22) dX11_compartment_14 (by decide) ?_
    exact ag_irpp dX11_compartment_22
set_option maxRecDepth 100000 in
set_option maxHeartbeats 4000000 in
theorem c_X11_heap {l : Launch} {D : va_G} {cy : Nat → ClassId} {bs kb : Nat} {V : HV} (o0 : Nat) (x1 : Int32) (ho0 : o0 < 1) {z : Int32} (hz : f_X11_heap kb o0 x1 V = some z) : CM l (aG 737 bs) D (tyL cy) (vwC cy bs kb) yX11_heap cX11_heap 2 (some .int) 3 65 tvI [.ref (bs + posC 9 o0), .int x1] V (z, V) := by
  refine cm_of vwC_D (by decide +kernel) (own := RX11) rfl (Nat.le_of_ble_eq_true rfl) (L := [some (.ref (bs + posC 9 o0)), some (.int x1)]) rfl hz (fun Γ => ?_)
  unfold f_X11_heap
  refine ag_aload_n dX11_heap_0 rfl ?_
  refine gC_X11_world ho0 fl_X11_14 dX11_heap_1 ?_
  refine gC_X10_booted (by decide) fl_X11_59 dX11_heap_4 ?_
  refine ag_bif_eq (tgt := 24) dX11_heap_7 (by decide) (fun h1 => ?_) (fun h1 => ?_)
  · refine ag_iconst (v := (-1)) dX11_heap_24 (by decide) ?_
    exact ag_irpp dX11_heap_25
  · refine ag_aload_n dX11_heap_10 rfl ?_
    refine gC_X11_world ho0 fl_X11_14 dX11_heap_11 ?_
    refine gC_X10_heap (by decide) fl_X11_137 dX11_heap_14 ?_
    refine ag_iload_n dX11_heap_17 rfl ?_
    refine ag_bnd (fun p2 hp2 => ?_)
    refine ag_ivIp (c_X4_part 0 x1 (by decide) hp2) vwC_D (vwC_at (kpC_3 _ (by decide))) rfl cs_X11_141 rfl rfl (Nat.le_of_ble_eq_true rfl) ⟨by decide, by decide⟩ ⟨Nat.zero_le _, Nat.zero_le _⟩ dX11_heap_18 ?_
    refine ag_goto (tgt := 25) dX11_heap_21 (by decide) ?_
    exact ag_irpp dX11_heap_25
set_option maxRecDepth 100000 in
set_option maxHeartbeats 4000000 in
theorem c_X11_count {l : Launch} {D : va_G} {cy : Nat → ClassId} {bs kb : Nat} {V : HV} (o0 : Nat) (x1 : Int32) (ho0 : o0 < 1) {z : Int32} (hz : f_X11_count kb o0 x1 V = z) : CM l (aG 737 bs) D (tyL cy) (vwC cy bs kb) yX11_count cX11_count 2 (some .int) 1 21 tvI [.ref (bs + posC 9 o0), .int x1] V (z, V) := by
  refine cm_of vwC_D (by decide +kernel) (own := RX11) rfl (Nat.le_of_ble_eq_true rfl) (L := [some (.ref (bs + posC 9 o0)), some (.int x1)]) rfl hz (fun Γ => ?_)
  unfold f_X11_count
  refine ag_iload_n dX11_count_0 rfl ?_
  refine ag_bipush (v := 6) dX11_count_1 (by decide) ?_
  refine ag_dv (j := 24) (L1 := fun _ => [some (.ref (bs + posC 9 o0)), some (.int x1)]) (st1 := fun v1 => [.int v1]) (ws1 := fun _ => vwC cy bs kb V) (fun v1 => ?_) (fun k3 hk2 => ?_)
  · exact ag_irp dX11_count_24
  · refine ag_icmp_ne_v (tgt := 16) dX11_count_3 (by decide) (fun h4 => ?_) (fun h4 => ?_)
    · refine ag_aload_n dX11_count_16 rfl ?_
      refine gC_X11_world ho0 fl_X11_14 dX11_count_17 ?_
      refine ag_iload_n dX11_count_20 rfl ?_
      refine ag_ivIp (c_X10_part 0 x1 (by decide) rfl) vwC_D (vwC_at (kpC_8 _ (by decide))) rfl cs_X11_144 rfl rfl (Nat.le_of_ble_eq_true rfl) ⟨by decide, by decide⟩ ⟨Nat.zero_le _, Nat.zero_le _⟩ dX11_count_21 ?_
      exact hk2 (f_X10_part kb 0 x1 V)
    · refine ag_aload_n dX11_count_6 rfl ?_
      refine gC_X11_loader ho0 fl_X11_21 dX11_count_7 ?_
      refine gC_X5_length (by decide) fl_X11_32 dX11_count_10 ?_
      refine ag_goto (tgt := 24) dX11_count_13 (by decide) ?_
      exact hk2 (V 401 0 0)
set_option maxRecDepth 100000 in
set_option maxHeartbeats 4000000 in
theorem c_X11_broken {l : Launch} {D : va_G} {cy : Nat → ClassId} {bs kb : Nat} {V : HV} (o0 : Nat) (x1 : Int32) (ho0 : o0 < 1) {z : Int32} (hz : f_X11_broken o0 x1 = z) : CM l (aG 737 bs) D (tyL cy) (vwC cy bs kb) yX11_broken cX11_broken 2 (some .int) 0 0 tvI [.ref (bs + posC 9 o0), .int x1] V (z, V) := by
  refine cm_of vwC_D (by decide +kernel) (own := RX11) rfl (Nat.le_of_ble_eq_true rfl) (L := [some (.ref (bs + posC 9 o0)), some (.int x1)]) rfl hz (fun Γ => ?_)
  unfold f_X11_broken
  refine ag_iconst (v := 0) dX11_broken_0 (by decide) ?_
  exact ag_irp dX11_broken_1
