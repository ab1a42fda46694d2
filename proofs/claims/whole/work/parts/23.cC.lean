set_option maxRecDepth 100000 in
set_option maxHeartbeats 4000000 in
theorem c_X2_jumpTo {l : Launch} {D : va_G} {cy : Nat → ClassId} {bs kb : Nat} {V : HV} (o0 : Nat) (o1 : Nat) (x2 : Int32) (ho0 : o0 < 1) (ho1 : o1 < 6) {z : Int32 × HV} (hz : f_X2_jumpTo kb o0 o1 x2 V = some z) : CM l (aG 737 bs) D (tyL cy) (vwC cy bs kb) yX2_jumpTo cX2_jumpTo 6 (some .int) 5 119 tvI [.ref (bs + posC 8 o0), .ref (bs + posC 7 o1), .int x2] V z := by
  refine cm_of vwC_D (by decide +kernel) (own := RX2) rfl (Nat.le_of_ble_eq_true rfl) (L := [some (.ref (bs + posC 8 o0)), some (.ref (bs + posC 7 o1)), some (.int x2), none, none, none]) rfl hz (fun Γ => ?_)
  unfold f_X2_jumpTo
  refine ag_aload_n dX2_jumpTo_0 rfl ?_
  refine gC_X10_scratch ho0 fl_X2_193 dX2_jumpTo_1 ?_
  refine ag_astore_n (L' := [some (.ref (bs + posC 8 o0)), some (.ref (bs + posC 7 o1)), some (.int x2), some (.ref (bs + posC 0 582)), none, none]) dX2_jumpTo_4 (by decide) rfl ?_
  refine ag_aload_n dX2_jumpTo_5 rfl ?_
  refine ag_aload_n dX2_jumpTo_6 rfl ?_
  refine ag_iload_n dX2_jumpTo_7 rfl ?_
  refine ag_isIp (c_X2_aField x2  rfl) vwC_D cs_X2_84 rfl rfl (Nat.le_of_ble_eq_true rfl) ⟨by decide, by decide⟩ ⟨Nat.zero_le _, Nat.zero_le _⟩ dX2_jumpTo_8 ?_
  refine ag_ltI (fun v1 => ?_)
  refine ag_ivRp (c_X9_reg o1 v1 ho1 rfl) vwC_D (vwC_at (kpC_7 _ ho1)) rfl cs_X2_71 rfl rfl (Nat.le_of_ble_eq_true rfl) ⟨by decide, by decide⟩ ⟨Nat.zero_le _, Nat.zero_le _⟩ dX2_jumpTo_11 ?_
  refine ag_ivVe (c_X0_copy 582 (f_X9_reg o1 v1) (by decide) (ok_X9_reg ho1) rfl) vwC_D (vwC_at (kpC_0 _ (by decide))) rfl cs_X2_98 rfl rfl (Nat.le_of_ble_eq_true rfl) ⟨by decide, by decide⟩ ⟨Nat.zero_le _, Nat.zero_le _⟩ dX2_jumpTo_14 ?_
  refine ag_ltV (fun V2 => ?_)
  refine ag_iload_n dX2_jumpTo_17 rfl ?_
  refine ag_isIp (c_X2_immediate x2  rfl) vwC_D cs_X2_143 rfl rfl (Nat.le_of_ble_eq_true rfl) ⟨by decide, by decide⟩ ⟨Nat.zero_le _, Nat.zero_le _⟩ dX2_jumpTo_18 ?_
  refine ag_ltI (fun v3 => ?_)
  refine ag_istore (L' := [some (.ref (bs + posC 8 o0)), some (.ref (bs + posC 7 o1)), some (.int x2), some (.ref (bs + posC 0 582)), some (.int v3), none]) dX2_jumpTo_21 (by decide) rfl ?_
  refine ag_aload_n dX2_jumpTo_23 rfl ?_
  refine ag_iload dX2_jumpTo_24 rfl ?_
  refine ag_isIp (c_X2_jumpFault 582 v3 (by decide) rfl) vwC_D cs_X2_239 rfl rfl (Nat.le_of_ble_eq_true rfl) ⟨by decide, by decide⟩ ⟨Nat.zero_le _, Nat.zero_le _⟩ dX2_jumpTo_26 ?_
  refine ag_ltI (fun v4 => ?_)
  refine ag_istore (L' := [some (.ref (bs + posC 8 o0)), some (.ref (bs + posC 7 o1)), some (.int x2), some (.ref (bs + posC 0 582)), some (.int v3), some (.int v4)]) dX2_jumpTo_29 (by decide) rfl ?_
  refine ag_iload dX2_jumpTo_31 rfl ?_
  refine ag_if_eq (tgt := 39) dX2_jumpTo_33 (by decide) (fun h5 => ?_) (fun h5 => ?_)
  · refine ag_aload_n dX2_jumpTo_39 rfl ?_
    refine ag_aload_n dX2_jumpTo_40 rfl ?_
    refine ag_iload_n dX2_jumpTo_41 rfl ?_
    refine ag_isIp (c_X2_dField x2  rfl) vwC_D cs_X2_9 rfl rfl (Nat.le_of_ble_eq_true rfl) ⟨by decide, by decide⟩ ⟨Nat.zero_le _, Nat.zero_le _⟩ dX2_jumpTo_42 ?_
    refine ag_ltI (fun v6 => ?_)
    refine ag_ivRp (c_X9_reg o1 v6 ho1 rfl) vwC_D (vwC_at (kpC_7 _ ho1)) rfl cs_X2_71 rfl rfl (Nat.le_of_ble_eq_true rfl) ⟨by decide, by decide⟩ ⟨Nat.zero_le _, Nat.zero_le _⟩ dX2_jumpTo_45 ?_
    refine ag_isVe (c_X2_link o1 (f_X9_reg o1 v6) ho1 (ok_X9_reg ho1) rfl) vwC_D cs_X2_102 rfl rfl (Nat.le_of_ble_eq_true rfl) ⟨by decide, by decide⟩ ⟨Nat.zero_le _, Nat.zero_le _⟩ dX2_jumpTo_48 ?_
    refine ag_ltV (fun V7 => ?_)
    refine ag_aload_n dX2_jumpTo_51 rfl ?_
    refine gC_X9_pcc ho1 fl_X2_25 dX2_jumpTo_52 ?_
    refine ag_dup dX2_jumpTo_55 rfl ?_
    refine gC_X0_cursor (by omega) fl_X2_31 dX2_jumpTo_56 ?_
    refine ag_iconst (v := 4) dX2_jumpTo_59 (by decide) ?_
    refine ag_iadd dX2_jumpTo_60 ?_
    refine pC_X0_cursor (by omega) fl_X2_31 dX2_jumpTo_61 ?_
    refine ag_ltV (fun V8 => ?_)
    refine ag_aload_n dX2_jumpTo_64 rfl ?_
    refine gC_X0_type (by decide) fl_X2_136 dX2_jumpTo_65 ?_
    refine ag_if (fun h9 => ?_) (fun h9 => ?_)
    · refine ag_tab (off := 28) (tgt := 96) h9 dX2_jumpTo_68 (by decide) (by decide) (by decide) (by decide) ?_
      refine ag_aload_n dX2_jumpTo_96 rfl ?_
      refine ag_aload_n dX2_jumpTo_97 rfl ?_
      refine ag_aload_n dX2_jumpTo_98 rfl ?_
      refine gC_X0_cursor (by decide) fl_X2_31 dX2_jumpTo_99 ?_
      refine ag_bnd (fun p10 hp10 => ?_)
      refine ag_isIe (c_X2_call o0 o1 (V8 0 582 0) ho0 ho1 hp10) vwC_D cs_X2_243 rfl rfl (Nat.le_of_ble_eq_true rfl) ⟨by decide, by decide⟩ ⟨Nat.zero_le _, Nat.zero_le _⟩ dX2_jumpTo_102 ?_
      exact ag_irep dX2_jumpTo_105
    · refine ag_if (fun h11 => ?_) (fun h11 => ?_)
      · refine ag_tab (off := 38) (tgt := 106) h11 dX2_jumpTo_68 (by decide) (by decide) (by decide) (by decide) ?_
        refine ag_aload_n dX2_jumpTo_106 rfl ?_
        refine ag_aload_n dX2_jumpTo_107 rfl ?_
        refine gC_X10_store ho0 fl_X2_40 dX2_jumpTo_108 ?_
        refine ag_bnd (fun p12 hp12 => ?_)
        refine ag_ivVe (c_X9_giveBack o1 0 ho1 (by decide) hp12) vwC_D (vwC_at (kpC_7 _ ho1)) rfl cs_X2_246 rfl rfl (Nat.le_of_ble_eq_true rfl) ⟨by decide, by decide⟩ ⟨Nat.zero_le _, Nat.zero_le _⟩ dX2_jumpTo_111 ?_
        refine ag_goto (tgt := 136) dX2_jumpTo_114 (by decide) ?_
        refine ag_iconst (v := 0) dX2_jumpTo_136 (by decide) ?_
        exact ag_irep dX2_jumpTo_137
      · refine ag_if (fun h13 => ?_) (fun h13 => ?_)
        · refine ag_tab (off := 49) (tgt := 117) h13 dX2_jumpTo_68 (by decide) (by decide) (by decide) (by decide) ?_
          refine ag_aload_n dX2_jumpTo_117 rfl ?_
          refine ag_aload_n dX2_jumpTo_118 rfl ?_
          refine ag_aload_n dX2_jumpTo_119 rfl ?_
          refine gC_X0_cursor (by decide) fl_X2_31 dX2_jumpTo_120 ?_
          refine ag_bnd (fun p14 hp14 => ?_)
          refine ag_isVe (c_X7_serve o0 o1 (V8 0 582 0) ho0 ho1 hp14) vwC_D cs_X2_250 rfl rfl (Nat.le_of_ble_eq_true rfl) ⟨by decide, by decide⟩ ⟨Nat.zero_le _, Nat.zero_le _⟩ dX2_jumpTo_123 ?_
          refine ag_goto (tgt := 136) dX2_jumpTo_126 (by decide) ?_
          refine ag_iconst (v := 0) dX2_jumpTo_136 (by decide) ?_
          exact ag_irep dX2_jumpTo_137
        · refine ag_tabD (tgt := 129) dX2_jumpTo_68 (by have z0 := lv_neT h9 (k := 4) (a := 4) (by decide); have z1 := lv_neT h11 (k := 5) (a := 5) (by decide); have z2 := lv_neT h13 (k := 6) (a := 6) (by decide); omega) (by decide) ?_
          refine ag_aload_n dX2_jumpTo_129 rfl ?_
          refine ag_aload_n dX2_jumpTo_130 rfl ?_
          refine ag_iload dX2_jumpTo_131 rfl ?_
          refine ag_isVe (c_X2_enter o1 582 v3 ho1 (by decide) rfl) vwC_D cs_X2_255 rfl rfl (Nat.le_of_ble_eq_true rfl) ⟨by decide, by decide⟩ ⟨Nat.zero_le _, Nat.zero_le _⟩ dX2_jumpTo_133 ?_
          refine ag_ltV (fun V15 => ?_)
          refine ag_iconst (v := 0) dX2_jumpTo_136 (by decide) ?_
          exact ag_irep dX2_jumpTo_137
  · refine ag_iload dX2_jumpTo_36 rfl ?_
    exact ag_irep dX2_jumpTo_38
set_option maxRecDepth 100000 in
set_option maxHeartbeats 4000000 in
theorem c_X2_branches {l : Launch} {D : va_G} {cy : Nat → ClassId} {bs kb : Nat} {V : HV} (o0 : Nat) (x1 : Int32) (ho0 : o0 < 6) {z : Bool} (hz : f_X2_branches kb o0 x1 V = z) : CM l (aG 737 bs) D (tyL cy) (vwC cy bs kb) yX2_branches cX2_branches 4 (some .boolean) 1 21 tvZ [.ref (bs + posC 7 o0), .int x1] V (z, V) := by
  refine cm_of vwC_D (by decide +kernel) (own := RX2) rfl (Nat.le_of_ble_eq_true rfl) (L := [some (.ref (bs + posC 7 o0)), some (.int x1), none, none]) rfl hz (fun Γ => ?_)
  unfold f_X2_branches
  refine ag_aload_n dX2_branches_0 rfl ?_
  refine ag_iload_n dX2_branches_1 rfl ?_
  refine ag_isIp (c_X2_aField x1  rfl) vwC_D cs_X2_84 rfl rfl (Nat.le_of_ble_eq_true rfl) ⟨by decide, by decide⟩ ⟨Nat.zero_le _, Nat.zero_le _⟩ dX2_branches_2 ?_
  refine ag_ltI (fun v1 => ?_)
  refine ag_ivRp (c_X9_reg o0 v1 ho0 rfl) vwC_D (vwC_at (kpC_7 _ ho0)) rfl cs_X2_71 rfl rfl (Nat.le_of_ble_eq_true rfl) ⟨by decide, by decide⟩ ⟨Nat.zero_le _, Nat.zero_le _⟩ dX2_branches_5 ?_
  refine gC_X0_cursor (ok_X9_reg ho0) fl_X2_31 dX2_branches_8 ?_
  refine ag_ltI (fun v2 => ?_)
  refine ag_istore_n (L' := [some (.ref (bs + posC 7 o0)), some (.int x1), some (.int v2), none]) dX2_branches_11 (by decide) rfl ?_
  refine ag_aload_n dX2_branches_12 rfl ?_
  refine ag_iload_n dX2_branches_13 rfl ?_
  refine ag_isIp (c_X2_bField x1  rfl) vwC_D cs_X2_87 rfl rfl (Nat.le_of_ble_eq_true rfl) ⟨by decide, by decide⟩ ⟨Nat.zero_le _, Nat.zero_le _⟩ dX2_branches_14 ?_
  refine ag_ltI (fun v3 => ?_)
  refine ag_ivRp (c_X9_reg o0 v3 ho0 rfl) vwC_D (vwC_at (kpC_7 _ ho0)) rfl cs_X2_71 rfl rfl (Nat.le_of_ble_eq_true rfl) ⟨by decide, by decide⟩ ⟨Nat.zero_le _, Nat.zero_le _⟩ dX2_branches_17 ?_
  refine gC_X0_cursor (ok_X9_reg ho0) fl_X2_31 dX2_branches_20 ?_
  refine ag_ltI (fun v4 => ?_)
  refine ag_istore_n (L' := [some (.ref (bs + posC 7 o0)), some (.int x1), some (.int v2), some (.int v4)]) dX2_branches_23 (by decide) rfl ?_
  refine ag_iload_n dX2_branches_24 rfl ?_
  refine ag_isIp (c_X2_f x1  rfl) vwC_D cs_X2_78 rfl rfl (Nat.le_of_ble_eq_true rfl) ⟨by decide, by decide⟩ ⟨Nat.zero_le _, Nat.zero_le _⟩ dX2_branches_25 ?_
  refine ag_ltI (fun v5 => ?_)
  refine ag_if (fun h6 => ?_) (fun h6 => ?_)
  · refine ag_tab (off := 44) (tgt := 72) h6 dX2_branches_28 (by decide) (by decide) (by decide) (by decide) ?_
    refine ag_iload_n dX2_branches_72 rfl ?_
    refine ag_iload_n dX2_branches_73 rfl ?_
    refine ag_dv (j := 82) (L1 := fun _ => [some (.ref (bs + posC 7 o0)), some (.int x1), some (.int v2), some (.int v4)]) (st1 := fun v7 => [.int (b2i v7)]) (ws1 := fun _ => vwC cy bs kb V) (fun v7 => ?_) (fun k9 hk8 => ?_)
    · exact ag_zrp (x := v7) dX2_branches_82
    · refine ag_icmp_ne_v (tgt := 81) dX2_branches_74 (by decide) (fun h10 => ?_) (fun h10 => ?_)
      · refine ag_iconst (v := 0) dX2_branches_81 (by decide) ?_
        exact hk8 false
      · refine ag_iconst (v := 1) dX2_branches_77 (by decide) ?_
        refine ag_goto (tgt := 82) dX2_branches_78 (by decide) ?_
        exact hk8 true
  · refine ag_if (fun h11 => ?_) (fun h11 => ?_)
    · refine ag_tab (off := 55) (tgt := 83) h11 dX2_branches_28 (by decide) (by decide) (by decide) (by decide) ?_
      refine ag_iload_n dX2_branches_83 rfl ?_
      refine ag_iload_n dX2_branches_84 rfl ?_
      refine ag_dv (j := 93) (L1 := fun _ => [some (.ref (bs + posC 7 o0)), some (.int x1), some (.int v2), some (.int v4)]) (st1 := fun v12 => [.int (b2i v12)]) (ws1 := fun _ => vwC cy bs kb V) (fun v12 => ?_) (fun k14 hk13 => ?_)
      · exact ag_zrp (x := v12) dX2_branches_93
      · refine ag_icmp_eq_v (tgt := 92) dX2_branches_85 (by decide) (fun h15 => ?_) (fun h15 => ?_)
        · refine ag_iconst (v := 0) dX2_branches_92 (by decide) ?_
          exact hk13 false
        · refine ag_iconst (v := 1) dX2_branches_88 (by decide) ?_
          refine ag_goto (tgt := 93) dX2_branches_89 (by decide) ?_
          exact hk13 true
    · refine ag_if (fun h16 => ?_) (fun h16 => ?_)
      · refine ag_tab (off := 66) (tgt := 94) h16 dX2_branches_28 (by decide) (by decide) (by decide) (by decide) ?_
        refine ag_iload_n dX2_branches_94 rfl ?_
        refine ag_iload_n dX2_branches_95 rfl ?_
        refine ag_dv (j := 104) (L1 := fun _ => [some (.ref (bs + posC 7 o0)), some (.int x1), some (.int v2), some (.int v4)]) (st1 := fun v17 => [.int (b2i v17)]) (ws1 := fun _ => vwC cy bs kb V) (fun v17 => ?_) (fun k19 hk18 => ?_)
        · exact ag_zrp (x := v17) dX2_branches_104
        · refine ag_icmp_ge_v (tgt := 103) dX2_branches_96 (by decide) (fun h20 => ?_) (fun h20 => ?_)
          · refine ag_iconst (v := 0) dX2_branches_103 (by decide) ?_
            exact hk18 false
          · refine ag_iconst (v := 1) dX2_branches_99 (by decide) ?_
            refine ag_goto (tgt := 104) dX2_branches_100 (by decide) ?_
            exact hk18 true
      · refine ag_if (fun h21 => ?_) (fun h21 => ?_)
        · refine ag_tab (off := 77) (tgt := 105) h21 dX2_branches_28 (by decide) (by decide) (by decide) (by decide) ?_
          refine ag_iload_n dX2_branches_105 rfl ?_
          refine ag_iload_n dX2_branches_106 rfl ?_
          refine ag_dv (j := 115) (L1 := fun _ => [some (.ref (bs + posC 7 o0)), some (.int x1), some (.int v2), some (.int v4)]) (st1 := fun v22 => [.int (b2i v22)]) (ws1 := fun _ => vwC cy bs kb V) (fun v22 => ?_) (fun k24 hk23 => ?_)
          · exact ag_zrp (x := v22) dX2_branches_115
          · refine ag_icmp_lt_v (tgt := 114) dX2_branches_107 (by decide) (fun h25 => ?_) (fun h25 => ?_)
            · refine ag_iconst (v := 0) dX2_branches_114 (by decide) ?_
              exact hk23 false
            · refine ag_iconst (v := 1) dX2_branches_110 (by decide) ?_
              refine ag_goto (tgt := 115) dX2_branches_111 (by decide) ?_
              exact hk23 true
        · refine ag_if (fun h26 => ?_) (fun h26 => ?_)
          · refine ag_tab (off := 88) (tgt := 116) h26 dX2_branches_28 (by decide) (by decide) (by decide) (by decide) ?_
            refine ag_iload_n dX2_branches_116 rfl ?_
            refine ag_inJp (c_X11_unsigned v2  rfl) vwC_D cs_X2_139 rfl rfl (Nat.le_of_ble_eq_true rfl) ⟨by decide, by decide⟩ ⟨Nat.zero_le _, Nat.zero_le _⟩ dX2_branches_117 ?_
            refine ag_ltJ (fun v27 => ?_)
            refine ag_iload_n dX2_branches_120 rfl ?_
            refine ag_inJp (c_X11_unsigned v4  rfl) vwC_D cs_X2_139 rfl rfl (Nat.le_of_ble_eq_true rfl) ⟨by decide, by decide⟩ ⟨Nat.zero_le _, Nat.zero_le _⟩ dX2_branches_121 ?_
            refine ag_ltJ (fun v28 => ?_)
            refine ag_lcmp dX2_branches_124 ?_
            refine ag_dv (j := 133) (L1 := fun _ => [some (.ref (bs + posC 7 o0)), some (.int x1), some (.int v2), some (.int v4)]) (st1 := fun v29 => [.int (b2i v29)]) (ws1 := fun _ => vwC cy bs kb V) (fun v29 => ?_) (fun k31 hk30 => ?_)
            · exact ag_zrp (x := v29) dX2_branches_133
            · refine ag_if_ge_v (tgt := 132) dX2_branches_125 (by decide) (fun h32 => ?_) (fun h32 => ?_)
              · refine ag_iconst (v := 0) dX2_branches_132 (by decide) ?_
                exact hk30 false
              · refine ag_iconst (v := 1) dX2_branches_128 (by decide) ?_
                refine ag_goto (tgt := 133) dX2_branches_129 (by decide) ?_
                exact hk30 true
          · refine ag_hv (j := 134) (L1 := [some (.ref (bs + posC 7 o0)), some (.int x1), some (.int v2), some (.int v4)]) (st1 := []) (ws1 := vwC cy bs kb V) ?_ (fun hd40 => ?_)
            · refine ag_iload_n dX2_branches_134 rfl ?_
              refine ag_inJp (c_X11_unsigned v2  rfl) vwC_D cs_X2_139 rfl rfl (Nat.le_of_ble_eq_true rfl) ⟨by decide, by decide⟩ ⟨Nat.zero_le _, Nat.zero_le _⟩ dX2_branches_135 ?_
              refine ag_ltJ (fun v33 => ?_)
              refine ag_iload_n dX2_branches_138 rfl ?_
              refine ag_inJp (c_X11_unsigned v4  rfl) vwC_D cs_X2_139 rfl rfl (Nat.le_of_ble_eq_true rfl) ⟨by decide, by decide⟩ ⟨Nat.zero_le _, Nat.zero_le _⟩ dX2_branches_139 ?_
              refine ag_ltJ (fun v34 => ?_)
              refine ag_lcmp dX2_branches_142 ?_
              refine ag_dv (j := 151) (L1 := fun _ => [some (.ref (bs + posC 7 o0)), some (.int x1), some (.int v2), some (.int v4)]) (st1 := fun v35 => [.int (b2i v35)]) (ws1 := fun _ => vwC cy bs kb V) (fun v35 => ?_) (fun k37 hk36 => ?_)
              · exact ag_zrp (x := v35) dX2_branches_151
              · refine ag_if_lt_v (tgt := 150) dX2_branches_143 (by decide) (fun h38 => ?_) (fun h38 => ?_)
                · refine ag_iconst (v := 0) dX2_branches_150 (by decide) ?_
                  exact hk36 false
                · refine ag_iconst (v := 1) dX2_branches_146 (by decide) ?_
                  refine ag_goto (tgt := 151) dX2_branches_147 (by decide) ?_
                  exact hk36 true
            · by_cases h41 : v5 = 2
              · exact ag_tab (off := 106) (tgt := 134) h41 dX2_branches_28 (by decide) (by decide) (by decide) (by decide) hd40
              · by_cases h42 : v5 = 3
                · exact ag_tab (off := 106) (tgt := 134) h42 dX2_branches_28 (by decide) (by decide) (by decide) (by decide) hd40
                · exact ag_tabD (tgt := 134) dX2_branches_28 (by have z0 := lv_neT h6 (k := 0) (a := 0) (by decide); have z1 := lv_neT h11 (k := 1) (a := 1) (by decide); have z2 := lv_neT h16 (k := 4) (a := 4) (by decide); have z3 := lv_neT h21 (k := 5) (a := 5) (by decide); have z4 := lv_neT h26 (k := 6) (a := 6) (by decide); have z5 := lv_neT h41 (k := 2) (a := 2) (by decide); have z6 := lv_neT h42 (k := 3) (a := 3) (by decide); omega) (by decide) hd40
set_option maxRecDepth 100000 in
set_option maxHeartbeats 4000000 in
theorem c_X2_combine {l : Launch} {D : va_G} {cy : Nat → ClassId} {bs kb : Nat} {V : HV} (x0 : Int32) (x1 : Int32) (x2 : Int32) (x3 : Bool) {z : Int32} (hz : f_X2_combine x0 x1 x2 x3 = z) : CM l (aG 737 bs) D (tyL cy) (vwC cy bs kb) yX2_combine cX2_combine 4 (some .int) 1 20 tvI [.int x0, .int x1, .int x2, .int (b2i x3)] V (z, V) := by
  refine cm_of vwC_D (by decide +kernel) (own := RX2) rfl (Nat.le_of_ble_eq_true rfl) (L := [some (.int x0), some (.int x1), some (.int x2), some (.int (b2i x3))]) rfl hz (fun Γ => ?_)
  unfold f_X2_combine
  refine ag_iload_n dX2_combine_0 rfl ?_
  refine ag_if (fun h1 => ?_) (fun h1 => ?_)
  · refine ag_tab (off := 43) (tgt := 44) h1 dX2_combine_1 (by decide) (by decide) (by decide) (by decide) ?_
    refine ag_iload_n dX2_combine_44 rfl ?_
    refine ag_dv (j := 57) (L1 := fun _ => [some (.int x0), some (.int x1), some (.int x2), some (.int (b2i x3))]) (st1 := fun v2 => [.int v2]) (ws1 := fun _ => vwC cy bs kb V) (fun v2 => ?_) (fun k4 hk3 => ?_)
    · exact ag_irp dX2_combine_57
    · refine ag_bif_eq_v (tgt := 54) dX2_combine_45 (by decide) (fun h5 => ?_) (fun h5 => ?_)
      · refine ag_iload_n dX2_combine_54 rfl ?_
        refine ag_iload_n dX2_combine_55 rfl ?_
        refine ag_iadd dX2_combine_56 ?_
        exact hk3 (x1 + x2)
      · refine ag_iload_n dX2_combine_48 rfl ?_
        refine ag_iload_n dX2_combine_49 rfl ?_
        refine ag_isub dX2_combine_50 ?_
        refine ag_goto (tgt := 57) dX2_combine_51 (by decide) ?_
        exact hk3 (x1 - x2)
  · refine ag_if (fun h6 => ?_) (fun h6 => ?_)
    · refine ag_tab (off := 57) (tgt := 58) h6 dX2_combine_1 (by decide) (by decide) (by decide) (by decide) ?_
      refine ag_iload_n dX2_combine_58 rfl ?_
      refine ag_iload_n dX2_combine_59 rfl ?_
      refine ag_bipush (v := 31) dX2_combine_60 (by decide) ?_
      refine ag_iand dX2_combine_62 ?_
      refine ag_ishl dX2_combine_63 ?_
      exact ag_irp dX2_combine_64
    · refine ag_if (fun h7 => ?_) (fun h7 => ?_)
      · refine ag_tab (off := 64) (tgt := 65) h7 dX2_combine_1 (by decide) (by decide) (by decide) (by decide) ?_
        refine ag_iload_n dX2_combine_65 rfl ?_
        refine ag_iload_n dX2_combine_66 rfl ?_
        refine ag_dv (j := 75) (L1 := fun _ => [some (.int x0), some (.int x1), some (.int x2), some (.int (b2i x3))]) (st1 := fun v8 => [.int (b2i v8)]) (ws1 := fun _ => vwC cy bs kb V) (fun v8 => ?_) (fun k10 hk9 => ?_)
        · exact ag_irp dX2_combine_75
        · refine ag_icmp_ge_v (tgt := 74) dX2_combine_67 (by decide) (fun h11 => ?_) (fun h11 => ?_)
          · refine ag_iconst (v := 0) dX2_combine_74 (by decide) ?_
            exact hk9 false
          · refine ag_iconst (v := 1) dX2_combine_70 (by decide) ?_
            refine ag_goto (tgt := 75) dX2_combine_71 (by decide) ?_
            exact hk9 true
      · refine ag_if (fun h12 => ?_) (fun h12 => ?_)
        · refine ag_tab (off := 75) (tgt := 76) h12 dX2_combine_1 (by decide) (by decide) (by decide) (by decide) ?_
          refine ag_iload_n dX2_combine_76 rfl ?_
          refine ag_inJp (c_X11_unsigned x1  rfl) vwC_D cs_X2_139 rfl rfl (Nat.le_of_ble_eq_true rfl) ⟨by decide, by decide⟩ ⟨Nat.zero_le _, Nat.zero_le _⟩ dX2_combine_77 ?_
          refine ag_ltJ (fun v13 => ?_)
          refine ag_iload_n dX2_combine_80 rfl ?_
          refine ag_inJp (c_X11_unsigned x2  rfl) vwC_D cs_X2_139 rfl rfl (Nat.le_of_ble_eq_true rfl) ⟨by decide, by decide⟩ ⟨Nat.zero_le _, Nat.zero_le _⟩ dX2_combine_81 ?_
          refine ag_ltJ (fun v14 => ?_)
          refine ag_lcmp dX2_combine_84 ?_
          refine ag_dv (j := 93) (L1 := fun _ => [some (.int x0), some (.int x1), some (.int x2), some (.int (b2i x3))]) (st1 := fun v15 => [.int (b2i v15)]) (ws1 := fun _ => vwC cy bs kb V) (fun v15 => ?_) (fun k17 hk16 => ?_)
          · exact ag_irp dX2_combine_93
          · refine ag_if_ge_v (tgt := 92) dX2_combine_85 (by decide) (fun h18 => ?_) (fun h18 => ?_)
            · refine ag_iconst (v := 0) dX2_combine_92 (by decide) ?_
              exact hk16 false
            · refine ag_iconst (v := 1) dX2_combine_88 (by decide) ?_
              refine ag_goto (tgt := 93) dX2_combine_89 (by decide) ?_
              exact hk16 true
        · refine ag_if (fun h19 => ?_) (fun h19 => ?_)
          · refine ag_tab (off := 93) (tgt := 94) h19 dX2_combine_1 (by decide) (by decide) (by decide) (by decide) ?_
            refine ag_iload_n dX2_combine_94 rfl ?_
            refine ag_iload_n dX2_combine_95 rfl ?_
            refine ag_ixor dX2_combine_96 ?_
            exact ag_irp dX2_combine_97
          · refine ag_if (fun h20 => ?_) (fun h20 => ?_)
            · refine ag_tab (off := 97) (tgt := 98) h20 dX2_combine_1 (by decide) (by decide) (by decide) (by decide) ?_
              refine ag_iload_n dX2_combine_98 rfl ?_
              refine ag_dv (j := 117) (L1 := fun _ => [some (.int x0), some (.int x1), some (.int x2), some (.int (b2i x3))]) (st1 := fun v21 => [.int v21]) (ws1 := fun _ => vwC cy bs kb V) (fun v21 => ?_) (fun k23 hk22 => ?_)
              · exact ag_irp dX2_combine_117
              · refine ag_bif_eq_v (tgt := 111) dX2_combine_99 (by decide) (fun h24 => ?_) (fun h24 => ?_)
                · refine ag_iload_n dX2_combine_111 rfl ?_
                  refine ag_iload_n dX2_combine_112 rfl ?_
                  refine ag_bipush (v := 31) dX2_combine_113 (by decide) ?_
                  refine ag_iand dX2_combine_115 ?_
                  refine ag_iushr dX2_combine_116 ?_
                  exact hk22 (((x1).toUInt32 >>> (Int32.toUInt32 (x2 &&& 31) &&& Int32.toUInt32 31)).toInt32)
                · refine ag_iload_n dX2_combine_102 rfl ?_
                  refine ag_iload_n dX2_combine_103 rfl ?_
                  refine ag_bipush (v := 31) dX2_combine_104 (by decide) ?_
                  refine ag_iand dX2_combine_106 ?_
                  refine ag_ishr dX2_combine_107 ?_
                  refine ag_goto (tgt := 117) dX2_combine_108 (by decide) ?_
                  exact hk22 (x1 >>> ((x2 &&& 31) &&& 31))
            · refine ag_if (fun h25 => ?_) (fun h25 => ?_)
              · refine ag_tab (off := 117) (tgt := 118) h25 dX2_combine_1 (by decide) (by decide) (by decide) (by decide) ?_
                refine ag_iload_n dX2_combine_118 rfl ?_
                refine ag_iload_n dX2_combine_119 rfl ?_
                refine ag_ior dX2_combine_120 ?_
                exact ag_irp dX2_combine_121
              · refine ag_tabD (tgt := 122) dX2_combine_1 (by have z0 := lv_neT h1 (k := 0) (a := 0) (by decide); have z1 := lv_neT h6 (k := 1) (a := 1) (by decide); have z2 := lv_neT h7 (k := 2) (a := 2) (by decide); have z3 := lv_neT h12 (k := 3) (a := 3) (by decide); have z4 := lv_neT h19 (k := 4) (a := 4) (by decide); have z5 := lv_neT h20 (k := 5) (a := 5) (by decide); have z6 := lv_neT h25 (k := 6) (a := 6) (by decide); omega) (by decide) ?_
                refine ag_iload_n dX2_combine_122 rfl ?_
                refine ag_iload_n dX2_combine_123 rfl ?_
                refine ag_iand dX2_combine_124 ?_
                exact ag_irp dX2_combine_125
set_option maxRecDepth 100000 in
set_option maxHeartbeats 4000000 in
theorem c_X2_withImmediate {l : Launch} {D : va_G} {cy : Nat → ClassId} {bs kb : Nat} {V : HV} (o0 : Nat) (x1 : Int32) (ho0 : o0 < 6) {z : Int32} (hz : f_X2_withImmediate kb o0 x1 V = z) : CM l (aG 737 bs) D (tyL cy) (vwC cy bs kb) yX2_withImmediate cX2_withImmediate 4 (some .int) 2 43 tvI [.ref (bs + posC 7 o0), .int x1] V (z, V) := by
  refine cm_of vwC_D (by decide +kernel) (own := RX2) rfl (Nat.le_of_ble_eq_true rfl) (L := [some (.ref (bs + posC 7 o0)), some (.int x1), none, none]) rfl hz (fun Γ => ?_)
  unfold f_X2_withImmediate
  refine ag_iload_n dX2_withImmediate_0 rfl ?_
  refine ag_isIp (c_X2_f x1  rfl) vwC_D cs_X2_78 rfl rfl (Nat.le_of_ble_eq_true rfl) ⟨by decide, by decide⟩ ⟨Nat.zero_le _, Nat.zero_le _⟩ dX2_withImmediate_1 ?_
  refine ag_ltI (fun v1 => ?_)
  refine ag_istore_n (L' := [some (.ref (bs + posC 7 o0)), some (.int x1), some (.int v1), none]) dX2_withImmediate_4 (by decide) rfl ?_
  refine ag_iload_n dX2_withImmediate_5 rfl ?_
  refine ag_iconst (v := 5) dX2_withImmediate_6 (by decide) ?_
  refine ag_dv (j := 24) (L1 := fun _ => [some (.ref (bs + posC 7 o0)), some (.int x1), some (.int v1), none]) (st1 := fun v2 => [.int (b2i v2)]) (ws1 := fun _ => vwC cy bs kb V) (fun v2 => ?_) (fun k7 hk3 => ?_)
  · refine ag_istore_n (L' := [some (.ref (bs + posC 7 o0)), some (.int x1), some (.int v1), some (.int (b2i v2))]) dX2_withImmediate_24 (by decide) rfl ?_
    refine ag_iload_n dX2_withImmediate_25 rfl ?_
    refine ag_aload_n dX2_withImmediate_26 rfl ?_
    refine ag_iload_n dX2_withImmediate_27 rfl ?_
    refine ag_isIp (c_X2_aField x1  rfl) vwC_D cs_X2_84 rfl rfl (Nat.le_of_ble_eq_true rfl) ⟨by decide, by decide⟩ ⟨Nat.zero_le _, Nat.zero_le _⟩ dX2_withImmediate_28 ?_
    refine ag_ltI (fun v4 => ?_)
    refine ag_ivRp (c_X9_reg o0 v4 ho0 rfl) vwC_D (vwC_at (kpC_7 _ ho0)) rfl cs_X2_71 rfl rfl (Nat.le_of_ble_eq_true rfl) ⟨by decide, by decide⟩ ⟨Nat.zero_le _, Nat.zero_le _⟩ dX2_withImmediate_31 ?_
    refine gC_X0_cursor (ok_X9_reg ho0) fl_X2_31 dX2_withImmediate_34 ?_
    refine ag_iload_n dX2_withImmediate_37 rfl ?_
    refine ag_isIp (c_X2_immediate x1  rfl) vwC_D cs_X2_143 rfl rfl (Nat.le_of_ble_eq_true rfl) ⟨by decide, by decide⟩ ⟨Nat.zero_le _, Nat.zero_le _⟩ dX2_withImmediate_38 ?_
    refine ag_ltI (fun v5 => ?_)
    refine ag_iload_n dX2_withImmediate_41 rfl ?_
    refine ag_isIp (c_X2_combine v1 (V 0 (f_X9_reg o0 v4) 0) v5 v2  rfl) vwC_D cs_X2_146 rfl rfl (Nat.le_of_ble_eq_true rfl) ⟨by decide, by decide⟩ ⟨Nat.zero_le _, Nat.zero_le _⟩ dX2_withImmediate_42 ?_
    refine ag_ltI (fun v6 => ?_)
    exact ag_irp dX2_withImmediate_45
  · refine ag_icmp_ne_v (tgt := 23) dX2_withImmediate_7 (by decide) (fun h8 => ?_) (fun h8 => ?_)
    · refine ag_iconst (v := 0) dX2_withImmediate_23 (by decide) ?_
      exact hk3 false
    · refine ag_iload_n dX2_withImmediate_10 rfl ?_
      refine ag_isIp (c_X2_g x1  rfl) vwC_D cs_X2_81 rfl rfl (Nat.le_of_ble_eq_true rfl) ⟨by decide, by decide⟩ ⟨Nat.zero_le _, Nat.zero_le _⟩ dX2_withImmediate_11 ?_
      refine ag_bipush (v := 32) dX2_withImmediate_14 (by decide) ?_
      refine ag_icmp_ne_v (tgt := 23) dX2_withImmediate_16 (by decide) (fun h9 => ?_) (fun h9 => ?_)
      · refine ag_iconst (v := 0) dX2_withImmediate_23 (by decide) ?_
        exact hk3 false
      · refine ag_iconst (v := 1) dX2_withImmediate_19 (by decide) ?_
        refine ag_goto (tgt := 24) dX2_withImmediate_20 (by decide) ?_
        exact hk3 true
set_option maxRecDepth 100000 in
set_option maxHeartbeats 4000000 in
theorem c_X2_multiply {l : Launch} {D : va_G} {cy : Nat → ClassId} {bs kb : Nat} {V : HV} (x0 : Int32) (x1 : Int32) (x2 : Int32) {z : Int32} (hz : f_X2_multiply x0 x1 x2 = z) : CM l (aG 737 bs) D (tyL cy) (vwC cy bs kb) yX2_multiply cX2_multiply 3 (some .int) 1 20 tvI [.int x0, .int x1, .int x2] V (z, V) := by
  refine cm_of vwC_D (by decide +kernel) (own := RX2) rfl (Nat.le_of_ble_eq_true rfl) (L := [some (.int x0), some (.int x1), some (.int x2)]) rfl hz (fun Γ => ?_)
  unfold f_X2_multiply
  refine ag_iload_n dX2_multiply_0 rfl ?_
  refine ag_if (fun h1 => ?_) (fun h1 => ?_)
  · refine ag_tab (off := 27) (tgt := 28) h1 dX2_multiply_1 (by decide) (by decide) (by decide) (by decide) ?_
    refine ag_iload_n dX2_multiply_28 rfl ?_
    refine ag_iload_n dX2_multiply_29 rfl ?_
    refine ag_imul dX2_multiply_30 ?_
    exact ag_irp dX2_multiply_31
  · refine ag_if (fun h2 => ?_) (fun h2 => ?_)
    · refine ag_tab (off := 31) (tgt := 32) h2 dX2_multiply_1 (by decide) (by decide) (by decide) (by decide) ?_
      refine ag_iload_n dX2_multiply_32 rfl ?_
      refine ag_i2l dX2_multiply_33 ?_
      refine ag_iload_n dX2_multiply_34 rfl ?_
      refine ag_i2l dX2_multiply_35 ?_
      refine ag_lmul dX2_multiply_36 ?_
      refine ag_bipush (v := 32) dX2_multiply_37 (by decide) ?_
      refine ag_lshr dX2_multiply_39 ?_
      refine ag_l2i dX2_multiply_40 ?_
      exact ag_irp dX2_multiply_41
    · refine ag_if (fun h3 => ?_) (fun h3 => ?_)
      · refine ag_tab (off := 41) (tgt := 42) h3 dX2_multiply_1 (by decide) (by decide) (by decide) (by decide) ?_
        refine ag_iload_n dX2_multiply_42 rfl ?_
        refine ag_i2l dX2_multiply_43 ?_
        refine ag_iload_n dX2_multiply_44 rfl ?_
        refine ag_inJp (c_X11_unsigned x2  rfl) vwC_D cs_X2_139 rfl rfl (Nat.le_of_ble_eq_true rfl) ⟨by decide, by decide⟩ ⟨Nat.zero_le _, Nat.zero_le _⟩ dX2_multiply_45 ?_
        refine ag_ltJ (fun v4 => ?_)
        refine ag_lmul dX2_multiply_48 ?_
        refine ag_bipush (v := 32) dX2_multiply_49 (by decide) ?_
        refine ag_lshr dX2_multiply_51 ?_
        refine ag_l2i dX2_multiply_52 ?_
        exact ag_irp dX2_multiply_53
      · refine ag_tabD (tgt := 54) dX2_multiply_1 (by have z0 := lv_neT h1 (k := 0) (a := 0) (by decide); have z1 := lv_neT h2 (k := 1) (a := 1) (by decide); have z2 := lv_neT h3 (k := 2) (a := 2) (by decide); omega) (by decide) ?_
        refine ag_iload_n dX2_multiply_54 rfl ?_
        refine ag_inJp (c_X11_unsigned x1  rfl) vwC_D cs_X2_139 rfl rfl (Nat.le_of_ble_eq_true rfl) ⟨by decide, by decide⟩ ⟨Nat.zero_le _, Nat.zero_le _⟩ dX2_multiply_55 ?_
        refine ag_ltJ (fun v5 => ?_)
        refine ag_iload_n dX2_multiply_58 rfl ?_
        refine ag_inJp (c_X11_unsigned x2  rfl) vwC_D cs_X2_139 rfl rfl (Nat.le_of_ble_eq_true rfl) ⟨by decide, by decide⟩ ⟨Nat.zero_le _, Nat.zero_le _⟩ dX2_multiply_59 ?_
        refine ag_ltJ (fun v6 => ?_)
        refine ag_lmul dX2_multiply_62 ?_
        refine ag_bipush (v := 32) dX2_multiply_63 (by decide) ?_
        refine ag_lushr dX2_multiply_65 ?_
        refine ag_l2i dX2_multiply_66 ?_
        exact ag_irp dX2_multiply_67
set_option maxRecDepth 100000 in
set_option maxHeartbeats 4000000 in
theorem c_X2_divide {l : Launch} {D : va_G} {cy : Nat → ClassId} {bs kb : Nat} {V : HV} (x0 : Int32) (x1 : Int32) (x2 : Int32) {z : Int32} (hz : f_X2_divide x0 x1 x2 = some z) : CM l (aG 737 bs) D (tyL cy) (vwC cy bs kb) yX2_divide cX2_divide 9 (some .int) 1 20 tvI [.int x0, .int x1, .int x2] V (z, V) := by
  refine cm_of vwC_D (by decide +kernel) (own := RX2) rfl (Nat.le_of_ble_eq_true rfl) (L := [some (.int x0), some (.int x1), some (.int x2), none, none, none, none, none, none]) rfl hz (fun Γ => ?_)
  unfold f_X2_divide
  refine ag_iload_n dX2_divide_0 rfl ?_
  refine ag_bipush (v := 6) dX2_divide_1 (by decide) ?_
  refine ag_dv (j := 11) (L1 := fun _ => [some (.int x0), some (.int x1), some (.int x2), none, none, none, none, none, none]) (st1 := fun v1 => [.int (b2i v1)]) (ws1 := fun _ => vwC cy bs kb V) (fun v1 => ?_) (fun k27 hk2 => ?_)
  · refine ag_istore_n (L' := [some (.int x0), some (.int x1), some (.int x2), some (.int (b2i v1)), none, none, none, none, none]) dX2_divide_11 (by decide) rfl ?_
    refine ag_iload_n dX2_divide_12 rfl ?_
    refine ag_if_ne (tgt := 26) dX2_divide_13 (by decide) (fun h3 => ?_) (fun h3 => ?_)
    · refine ag_iload_n dX2_divide_26 rfl ?_
      refine ag_iconst (v := 4) dX2_divide_27 (by decide) ?_
      refine ag_dv (j := 42) (L1 := fun _ => [some (.int x0), some (.int x1), some (.int x2), some (.int (b2i v1)), none, none, none, none, none]) (st1 := fun v4 => [.int (b2i v4)]) (ws1 := fun _ => vwC cy bs kb V) (fun v4 => ?_) (fun k20 hk5 => ?_)
      · refine ag_istore (L' := [some (.int x0), some (.int x1), some (.int x2), some (.int (b2i v1)), some (.int (b2i v4)), none, none, none, none]) dX2_divide_42 (by decide) rfl ?_
        refine ag_iload dX2_divide_44 rfl ?_
        refine ag_dv (j := 58) (L1 := fun _ => [some (.int x0), some (.int x1), some (.int x2), some (.int (b2i v1)), some (.int (b2i v4)), none, none, none, none]) (st1 := fun v6 => [.long v6]) (ws1 := fun _ => vwC cy bs kb V) (fun v6 => ?_) (fun k18 hk7 => ?_)
        · refine ag_lstore (L' := [some (.int x0), some (.int x1), some (.int x2), some (.int (b2i v1)), some (.int (b2i v4)), some (.long v6), none, none, none]) dX2_divide_58 (by decide) rfl ?_
          refine ag_iload dX2_divide_60 rfl ?_
          refine ag_dv (j := 74) (L1 := fun _ => [some (.int x0), some (.int x1), some (.int x2), some (.int (b2i v1)), some (.int (b2i v4)), some (.long v6), none, none, none]) (st1 := fun v8 => [.long v8]) (ws1 := fun _ => vwC cy bs kb V) (fun v8 => ?_) (fun k16 hk9 => ?_)
          · refine ag_lstore (L' := [some (.int x0), some (.int x1), some (.int x2), some (.int (b2i v1)), some (.int (b2i v4)), some (.long v6), none, some (.long v8), none]) dX2_divide_74 (by decide) rfl ?_
            refine ag_iload_n dX2_divide_76 rfl ?_
            refine ag_jn1 (j := 93) (L1 := fun v10 => [some (.int x0), some (.int x1), some (.int x2), some (.int (b2i v1)), some (.int (b2i v4)), some (.long v6), none, some (.long v8), none]) (st1 := fun v10 => [.long v10]) (ws1 := fun v10 => vwC cy bs kb V) (fun v10 => ?_) (fun k11 hk12 => ?_)
            · refine ag_l2i dX2_divide_93 ?_
              exact ag_irpp dX2_divide_94
            · refine ag_bif_eq (tgt := 88) dX2_divide_77 (by decide) (fun h13 => ?_) (fun h13 => ?_)
              · refine ag_lload dX2_divide_88 rfl ?_
                refine ag_lload dX2_divide_90 rfl ?_
                refine ag_chk (fun h14 => ?_)
                refine ag_lrem dX2_divide_92 h14 ?_
                exact hk12 (v6 - v6 / v8 * v8)
              · refine ag_lload dX2_divide_80 rfl ?_
                refine ag_lload dX2_divide_82 rfl ?_
                refine ag_chk (fun h15 => ?_)
                refine ag_ldiv dX2_divide_84 h15 ?_
                refine ag_goto (tgt := 93) dX2_divide_85 (by decide) ?_
                exact hk12 (v6 / v8)
          · refine ag_bif_eq_v (tgt := 70) dX2_divide_62 (by decide) (fun h17 => ?_) (fun h17 => ?_)
            · refine ag_iload_n dX2_divide_70 rfl ?_
              refine ag_inJp (c_X11_unsigned x2  rfl) vwC_D cs_X2_139 rfl rfl (Nat.le_of_ble_eq_true rfl) ⟨by decide, by decide⟩ ⟨Nat.zero_le _, Nat.zero_le _⟩ dX2_divide_71 ?_
              exact hk9 (f_X11_unsigned x2)
            · refine ag_iload_n dX2_divide_65 rfl ?_
              refine ag_i2l dX2_divide_66 ?_
              refine ag_goto (tgt := 74) dX2_divide_67 (by decide) ?_
              exact hk9 x2.toInt64
        · refine ag_bif_eq_v (tgt := 54) dX2_divide_46 (by decide) (fun h19 => ?_) (fun h19 => ?_)
          · refine ag_iload_n dX2_divide_54 rfl ?_
            refine ag_inJp (c_X11_unsigned x1  rfl) vwC_D cs_X2_139 rfl rfl (Nat.le_of_ble_eq_true rfl) ⟨by decide, by decide⟩ ⟨Nat.zero_le _, Nat.zero_le _⟩ dX2_divide_55 ?_
            exact hk7 (f_X11_unsigned x1)
          · refine ag_iload_n dX2_divide_49 rfl ?_
            refine ag_i2l dX2_divide_50 ?_
            refine ag_goto (tgt := 58) dX2_divide_51 (by decide) ?_
            exact hk7 x1.toInt64
      · refine ag_icmp_eq_v (tgt := 37) dX2_divide_28 (by decide) (fun h21 => ?_) (fun h21 => ?_)
        · refine ag_iconst (v := 1) dX2_divide_37 (by decide) ?_
          refine ag_goto (tgt := 42) dX2_divide_38 (by decide) ?_
          exact hk5 true
        · refine ag_iload_n dX2_divide_31 rfl ?_
          refine ag_bipush (v := 6) dX2_divide_32 (by decide) ?_
          refine ag_icmp_ne_v (tgt := 41) dX2_divide_34 (by decide) (fun h22 => ?_) (fun h22 => ?_)
          · refine ag_iconst (v := 0) dX2_divide_41 (by decide) ?_
            exact hk5 false
          · refine ag_iconst (v := 1) dX2_divide_37 (by decide) ?_
            refine ag_goto (tgt := 42) dX2_divide_38 (by decide) ?_
            exact hk5 true
    · refine ag_iload_n dX2_divide_16 rfl ?_
      refine ag_dv (j := 25) (L1 := fun _ => [some (.int x0), some (.int x1), some (.int x2), some (.int (b2i v1)), none, none, none, none, none]) (st1 := fun v23 => [.int v23]) (ws1 := fun _ => vwC cy bs kb V) (fun v23 => ?_) (fun k25 hk24 => ?_)
      · exact ag_irpp dX2_divide_25
      · refine ag_bif_eq_v (tgt := 24) dX2_divide_17 (by decide) (fun h26 => ?_) (fun h26 => ?_)
        · refine ag_iload_n dX2_divide_24 rfl ?_
          exact hk24 x1
        · refine ag_iconst (v := (-1)) dX2_divide_20 (by decide) ?_
          refine ag_goto (tgt := 25) dX2_divide_21 (by decide) ?_
          exact hk24 (-1)
  · refine ag_icmp_ge_v (tgt := 10) dX2_divide_3 (by decide) (fun h28 => ?_) (fun h28 => ?_)
    · refine ag_iconst (v := 0) dX2_divide_10 (by decide) ?_
      exact hk2 false
    · refine ag_iconst (v := 1) dX2_divide_6 (by decide) ?_
      refine ag_goto (tgt := 11) dX2_divide_7 (by decide) ?_
      exact hk2 true
set_option maxRecDepth 100000 in
set_option maxHeartbeats 4000000 in
theorem c_X2_withRegisters {l : Launch} {D : va_G} {cy : Nat → ClassId} {bs kb : Nat} {V : HV} (o0 : Nat) (x1 : Int32) (ho0 : o0 < 6) {z : Int32} (hz : f_X2_withRegisters kb o0 x1 V = some z) : CM l (aG 737 bs) D (tyL cy) (vwC cy bs kb) yX2_withRegisters cX2_withRegisters 4 (some .int) 2 48 tvI [.ref (bs + posC 7 o0), .int x1] V (z, V) := by
  refine cm_of vwC_D (by decide +kernel) (own := RX2) rfl (Nat.le_of_ble_eq_true rfl) (L := [some (.ref (bs + posC 7 o0)), some (.int x1), none, none]) rfl hz (fun Γ => ?_)
  unfold f_X2_withRegisters
  refine ag_aload_n dX2_withRegisters_0 rfl ?_
  refine ag_iload_n dX2_withRegisters_1 rfl ?_
  refine ag_isIp (c_X2_aField x1  rfl) vwC_D cs_X2_84 rfl rfl (Nat.le_of_ble_eq_true rfl) ⟨by decide, by decide⟩ ⟨Nat.zero_le _, Nat.zero_le _⟩ dX2_withRegisters_2 ?_
  refine ag_ltI (fun v1 => ?_)
  refine ag_ivRp (c_X9_reg o0 v1 ho0 rfl) vwC_D (vwC_at (kpC_7 _ ho0)) rfl cs_X2_71 rfl rfl (Nat.le_of_ble_eq_true rfl) ⟨by decide, by decide⟩ ⟨Nat.zero_le _, Nat.zero_le _⟩ dX2_withRegisters_5 ?_
  refine gC_X0_cursor (ok_X9_reg ho0) fl_X2_31 dX2_withRegisters_8 ?_
  refine ag_ltI (fun v2 => ?_)
  refine ag_istore_n (L' := [some (.ref (bs + posC 7 o0)), some (.int x1), some (.int v2), none]) dX2_withRegisters_11 (by decide) rfl ?_
  refine ag_aload_n dX2_withRegisters_12 rfl ?_
  refine ag_iload_n dX2_withRegisters_13 rfl ?_
  refine ag_isIp (c_X2_bField x1  rfl) vwC_D cs_X2_87 rfl rfl (Nat.le_of_ble_eq_true rfl) ⟨by decide, by decide⟩ ⟨Nat.zero_le _, Nat.zero_le _⟩ dX2_withRegisters_14 ?_
  refine ag_ltI (fun v3 => ?_)
  refine ag_ivRp (c_X9_reg o0 v3 ho0 rfl) vwC_D (vwC_at (kpC_7 _ ho0)) rfl cs_X2_71 rfl rfl (Nat.le_of_ble_eq_true rfl) ⟨by decide, by decide⟩ ⟨Nat.zero_le _, Nat.zero_le _⟩ dX2_withRegisters_17 ?_
  refine gC_X0_cursor (ok_X9_reg ho0) fl_X2_31 dX2_withRegisters_20 ?_
  refine ag_ltI (fun v4 => ?_)
  refine ag_istore_n (L' := [some (.ref (bs + posC 7 o0)), some (.int x1), some (.int v2), some (.int v4)]) dX2_withRegisters_23 (by decide) rfl ?_
  refine ag_iload_n dX2_withRegisters_24 rfl ?_
  refine ag_isIp (c_X2_g x1  rfl) vwC_D cs_X2_81 rfl rfl (Nat.le_of_ble_eq_true rfl) ⟨by decide, by decide⟩ ⟨Nat.zero_le _, Nat.zero_le _⟩ dX2_withRegisters_25 ?_
  refine ag_ltI (fun v5 => ?_)
  refine ag_iconst (v := 1) dX2_withRegisters_28 (by decide) ?_
  refine ag_icmp_eq (tgt := 56) dX2_withRegisters_29 (by decide) (fun h6 => ?_) (fun h6 => ?_)
  · refine ag_iload_n dX2_withRegisters_56 rfl ?_
    refine ag_isIp (c_X2_f x1  rfl) vwC_D cs_X2_78 rfl rfl (Nat.le_of_ble_eq_true rfl) ⟨by decide, by decide⟩ ⟨Nat.zero_le _, Nat.zero_le _⟩ dX2_withRegisters_57 ?_
    refine ag_ltI (fun v7 => ?_)
    refine ag_iconst (v := 4) dX2_withRegisters_60 (by decide) ?_
    refine ag_icmp_ge (tgt := 76) dX2_withRegisters_61 (by decide) (fun h8 => ?_) (fun h8 => ?_)
    · refine ag_iload_n dX2_withRegisters_76 rfl ?_
      refine ag_isIp (c_X2_f x1  rfl) vwC_D cs_X2_78 rfl rfl (Nat.le_of_ble_eq_true rfl) ⟨by decide, by decide⟩ ⟨Nat.zero_le _, Nat.zero_le _⟩ dX2_withRegisters_77 ?_
      refine ag_ltI (fun v9 => ?_)
      refine ag_iload_n dX2_withRegisters_80 rfl ?_
      refine ag_iload_n dX2_withRegisters_81 rfl ?_
      refine ag_bnd (fun p10 hp10 => ?_)
      refine ag_isIp (c_X2_divide v9 v2 v4  hp10) vwC_D cs_X2_153 rfl rfl (Nat.le_of_ble_eq_true rfl) ⟨by decide, by decide⟩ ⟨Nat.zero_le _, Nat.zero_le _⟩ dX2_withRegisters_82 ?_
      exact ag_irpp dX2_withRegisters_85
    · refine ag_iload_n dX2_withRegisters_64 rfl ?_
      refine ag_isIp (c_X2_f x1  rfl) vwC_D cs_X2_78 rfl rfl (Nat.le_of_ble_eq_true rfl) ⟨by decide, by decide⟩ ⟨Nat.zero_le _, Nat.zero_le _⟩ dX2_withRegisters_65 ?_
      refine ag_ltI (fun v11 => ?_)
      refine ag_iload_n dX2_withRegisters_68 rfl ?_
      refine ag_iload_n dX2_withRegisters_69 rfl ?_
      refine ag_isIp (c_X2_multiply v11 v2 v4  rfl) vwC_D cs_X2_150 rfl rfl (Nat.le_of_ble_eq_true rfl) ⟨by decide, by decide⟩ ⟨Nat.zero_le _, Nat.zero_le _⟩ dX2_withRegisters_70 ?_
      refine ag_ltI (fun v12 => ?_)
      refine ag_goto (tgt := 85) dX2_withRegisters_73 (by decide) ?_
      exact ag_irpp dX2_withRegisters_85
  · refine ag_iload_n dX2_withRegisters_32 rfl ?_
    refine ag_isIp (c_X2_f x1  rfl) vwC_D cs_X2_78 rfl rfl (Nat.le_of_ble_eq_true rfl) ⟨by decide, by decide⟩ ⟨Nat.zero_le _, Nat.zero_le _⟩ dX2_withRegisters_33 ?_
    refine ag_ltI (fun v13 => ?_)
    refine ag_iload_n dX2_withRegisters_36 rfl ?_
    refine ag_iload_n dX2_withRegisters_37 rfl ?_
    refine ag_iload_n dX2_withRegisters_38 rfl ?_
    refine ag_isIp (c_X2_g x1  rfl) vwC_D cs_X2_81 rfl rfl (Nat.le_of_ble_eq_true rfl) ⟨by decide, by decide⟩ ⟨Nat.zero_le _, Nat.zero_le _⟩ dX2_withRegisters_39 ?_
    refine ag_ltI (fun v14 => ?_)
    refine ag_bipush (v := 32) dX2_withRegisters_42 (by decide) ?_
    refine ag_dv (j := 52) (L1 := fun _ => [some (.ref (bs + posC 7 o0)), some (.int x1), some (.int v2), some (.int v4)]) (st1 := fun v15 => [.int (b2i v15), .int v4, .int v2, .int v13]) (ws1 := fun _ => vwC cy bs kb V) (fun v15 => ?_) (fun k18 hk16 => ?_)
    · refine ag_isIp (c_X2_combine v13 v2 v4 v15  rfl) vwC_D cs_X2_146 rfl rfl (Nat.le_of_ble_eq_true rfl) ⟨by decide, by decide⟩ ⟨Nat.zero_le _, Nat.zero_le _⟩ dX2_withRegisters_52 ?_
      refine ag_ltI (fun v17 => ?_)
      exact ag_irpp dX2_withRegisters_55
    · refine ag_icmp_ne_v (tgt := 51) dX2_withRegisters_44 (by decide) (fun h19 => ?_) (fun h19 => ?_)
      · refine ag_iconst (v := 0) dX2_withRegisters_51 (by decide) ?_
        exact hk16 false
      · refine ag_iconst (v := 1) dX2_withRegisters_47 (by decide) ?_
        refine ag_goto (tgt := 52) dX2_withRegisters_48 (by decide) ?_
        exact hk16 true
set_option maxRecDepth 100000 in
set_option maxHeartbeats 4000000 in
theorem c_X2_sizeOf {l : Launch} {D : va_G} {cy : Nat → ClassId} {bs kb : Nat} {V : HV} (x0 : Int32) {z : Int32} (hz : f_X2_sizeOf x0 = z) : CM l (aG 737 bs) D (tyL cy) (vwC cy bs kb) yX2_sizeOf cX2_sizeOf 1 (some .int) 0 0 tvI [.int x0] V (z, V) := by
  refine cm_of vwC_D (by decide +kernel) (own := RX2) rfl (Nat.le_of_ble_eq_true rfl) (L := [some (.int x0)]) rfl hz (fun Γ => ?_)
  unfold f_X2_sizeOf
  refine ag_iload_n dX2_sizeOf_0 rfl ?_
  refine ag_iconst (v := 3) dX2_sizeOf_1 (by decide) ?_
  refine ag_dv (j := 15) (L1 := fun _ => [some (.int x0)]) (st1 := fun v1 => [.int v1]) (ws1 := fun _ => vwC cy bs kb V) (fun v1 => ?_) (fun k3 hk2 => ?_)
  · exact ag_irp dX2_sizeOf_15
  · refine ag_icmp_ne_v (tgt := 10) dX2_sizeOf_2 (by decide) (fun h4 => ?_) (fun h4 => ?_)
    · refine ag_iconst (v := 1) dX2_sizeOf_10 (by decide) ?_
      refine ag_iload_n dX2_sizeOf_11 rfl ?_
      refine ag_iconst (v := 3) dX2_sizeOf_12 (by decide) ?_
      refine ag_iand dX2_sizeOf_13 ?_
      refine ag_ishl dX2_sizeOf_14 ?_
      exact hk2 (1 <<< ((x0 &&& 3) &&& 31))
    · refine ag_bipush (v := 16) dX2_sizeOf_5 (by decide) ?_
      refine ag_goto (tgt := 15) dX2_sizeOf_7 (by decide) ?_
      exact hk2 16
set_option maxRecDepth 100000 in
set_option maxHeartbeats 4000000 in
theorem c_X2_isDevice {l : Launch} {D : va_G} {cy : Nat → ClassId} {bs kb : Nat} {V : HV} (x0 : Int32) {z : Bool} (hz : f_X2_isDevice x0 = z) : CM l (aG 737 bs) D (tyL cy) (vwC cy bs kb) yX2_isDevice cX2_isDevice 1 (some .boolean) 1 20 tvZ [.int x0] V (z, V) := by
  refine cm_of vwC_D (by decide +kernel) (own := RX2) rfl (Nat.le_of_ble_eq_true rfl) (L := [some (.int x0)]) rfl hz (fun Γ => ?_)
  unfold f_X2_isDevice
  refine ag_iload_n dX2_isDevice_0 rfl ?_
  refine ag_inJp (c_X11_unsigned x0  rfl) vwC_D cs_X2_139 rfl rfl (Nat.le_of_ble_eq_true rfl) ⟨by decide, by decide⟩ ⟨Nat.zero_le _, Nat.zero_le _⟩ dX2_isDevice_1 ?_
  refine ag_ltJ (fun v1 => ?_)
  refine ag_ldc2 kc_X2_156 dX2_isDevice_4 ?_
  refine ag_lcmp dX2_isDevice_7 ?_
  refine ag_dv (j := 16) (L1 := fun _ => [some (.int x0)]) (st1 := fun v2 => [.int (b2i v2)]) (ws1 := fun _ => vwC cy bs kb V) (fun v2 => ?_) (fun k4 hk3 => ?_)
  · exact ag_zrp (x := v2) dX2_isDevice_16
  · refine ag_if_lt_v (tgt := 15) dX2_isDevice_8 (by decide) (fun h5 => ?_) (fun h5 => ?_)
    · refine ag_iconst (v := 0) dX2_isDevice_15 (by decide) ?_
      exact hk3 false
    · refine ag_iconst (v := 1) dX2_isDevice_11 (by decide) ?_
      refine ag_goto (tgt := 16) dX2_isDevice_12 (by decide) ?_
      exact hk3 true
set_option maxRecDepth 100000 in
set_option maxHeartbeats 4000000 in
theorem c_X6_at {l : Launch} {D : va_G} {cy : Nat → ClassId} {bs kb : Nat} {V : HV} (o0 : Nat) (x1 : Int32) (ho0 : o0 < 2) {z : Int32} (hz : f_X6_at kb o0 x1 V = z) : CM l (aG 737 bs) D (tyL cy) (vwC cy bs kb) yX6_at cX6_at 2 (some .int) 0 0 tvI [.ref (bs + posC 5 o0), .int x1] V (z, V) := by
  refine cm_of vwC_D (by decide +kernel) (own := RX6) rfl (Nat.le_of_ble_eq_true rfl) (L := [some (.ref (bs + posC 5 o0)), some (.int x1)]) rfl hz (fun Γ => ?_)
  unfold f_X6_at
  refine ag_iload_n dX6_at_0 rfl ?_
  refine ag_aload_n dX6_at_1 rfl ?_
  refine gC_X6_bytes ho0 fl_X6_9 dX6_at_2 ?_
  refine nC_20 ho0 dX6_at_5 ?_
  refine ag_icmp_lt (tgt := 19) dX6_at_6 (by decide) (fun h1 => ?_) (fun h1 => ?_)
  · refine ag_iload_n dX6_at_19 rfl ?_
    exact ag_irp dX6_at_20
  · refine ag_iload_n dX6_at_9 rfl ?_
    refine ag_aload_n dX6_at_10 rfl ?_
    refine gC_X6_bytes ho0 fl_X6_9 dX6_at_11 ?_
    refine nC_20 ho0 dX6_at_14 ?_
    refine ag_isub dX6_at_15 ?_
    refine ag_goto (tgt := 20) dX6_at_16 (by decide) ?_
    exact ag_irp dX6_at_20
set_option maxRecDepth 100000 in
set_option maxHeartbeats 4000000 in
theorem c_X6_pull {l : Launch} {D : va_G} {cy : Nat → ClassId} {bs kb : Nat} {V : HV} (o0 : Nat) (ho0 : o0 < 2) {z : Int32 × HV} (hz : f_X6_pull kb o0 V = some z) : CM l (aG 737 bs) D (tyL cy) (vwC cy bs kb) yX6_pull cX6_pull 2 (some .int) 1 21 tvI [.ref (bs + posC 5 o0)] V z := by
  refine cm_of vwC_D (by decide +kernel) (own := RX6) rfl (Nat.le_of_ble_eq_true rfl) (L := [some (.ref (bs + posC 5 o0)), none]) rfl hz (fun Γ => ?_)
  unfold f_X6_pull
  refine ag_aload_n dX6_pull_0 rfl ?_
  refine gC_X6_length ho0 fl_X6_19 dX6_pull_1 ?_
  refine ag_if_le (tgt := 26) dX6_pull_4 (by decide) (fun h1 => ?_) (fun h1 => ?_)
  · refine ag_iconst (v := (-1)) dX6_pull_26 (by decide) ?_
    exact ag_irep dX6_pull_27
  · refine ag_aload_n dX6_pull_7 rfl ?_
    refine gC_X6_first ho0 fl_X6_15 dX6_pull_8 ?_
    refine ag_if_lt (tgt := 26) dX6_pull_11 (by decide) (fun h2 => ?_) (fun h2 => ?_)
    · refine ag_iconst (v := (-1)) dX6_pull_26 (by decide) ?_
      exact ag_irep dX6_pull_27
    · refine ag_aload_n dX6_pull_14 rfl ?_
      refine gC_X6_first ho0 fl_X6_15 dX6_pull_15 ?_
      refine ag_aload_n dX6_pull_18 rfl ?_
      refine gC_X6_bytes ho0 fl_X6_9 dX6_pull_19 ?_
      refine nC_20 ho0 dX6_pull_22 ?_
      refine ag_icmp_lt (tgt := 28) dX6_pull_23 (by decide) (fun h3 => ?_) (fun h3 => ?_)
      · refine ag_aload_n dX6_pull_28 rfl ?_
        refine gC_X6_bytes ho0 fl_X6_9 dX6_pull_29 ?_
        refine ag_aload_n dX6_pull_32 rfl ?_
        refine gC_X6_first ho0 fl_X6_15 dX6_pull_33 ?_
        refine ag_chk (fun h4 => ?_)
        refine aC_20 ho0 h4 dX6_pull_36 ?_
        refine ag_sipush (v := 255) dX6_pull_37 (by decide) ?_
        refine ag_iand dX6_pull_40 ?_
        refine ag_ltI (fun v5 => ?_)
        refine ag_istore_n (L' := [some (.ref (bs + posC 5 o0)), some (.int v5)]) dX6_pull_41 (by decide) rfl ?_
        refine ag_aload_n dX6_pull_42 rfl ?_
        refine ag_aload_n dX6_pull_43 rfl ?_
        refine ag_aload_n dX6_pull_44 rfl ?_
        refine gC_X6_first ho0 fl_X6_15 dX6_pull_45 ?_
        refine ag_iconst (v := 1) dX6_pull_48 (by decide) ?_
        refine ag_iadd dX6_pull_49 ?_
        refine ag_ivIp (c_X6_at o0 ((V 501 o0 0) + 1) ho0 rfl) vwC_D (vwC_at (kpC_5 _ ho0)) rfl cs_X6_26 rfl rfl (Nat.le_of_ble_eq_true rfl) ⟨by decide, by decide⟩ ⟨Nat.zero_le _, Nat.zero_le _⟩ dX6_pull_50 ?_
        refine ag_ltI (fun v6 => ?_)
        refine pC_X6_first ho0 fl_X6_15 dX6_pull_53 ?_
        refine ag_ltV (fun V7 => ?_)
        refine ag_aload_n dX6_pull_56 rfl ?_
        refine ag_dup dX6_pull_57 rfl ?_
        refine gC_X6_length ho0 fl_X6_19 dX6_pull_58 ?_
        refine ag_iconst (v := 1) dX6_pull_61 (by decide) ?_
        refine ag_isub dX6_pull_62 ?_
        refine pC_X6_length ho0 fl_X6_19 dX6_pull_63 ?_
        refine ag_ltV (fun V8 => ?_)
        refine ag_iload_n dX6_pull_66 rfl ?_
        exact ag_irep dX6_pull_67
      · refine ag_iconst (v := (-1)) dX6_pull_26 (by decide) ?_
        exact ag_irep dX6_pull_27
set_option maxRecDepth 100000 in
set_option maxHeartbeats 4000000 in
theorem c_X10_readDevice {l : Launch} {D : va_G} {cy : Nat → ClassId} {bs kb : Nat} {V : HV} (o0 : Nat) (o1 : Nat) (x2 : Int32) (ho0 : o0 < 1) (ho1 : o1 < 6) {z : Int32 × HV} (hz : f_X10_readDevice kb o0 o1 x2 V = some z) : CM l (aG 737 bs) D (tyL cy) (vwC cy bs kb) yX10_readDevice cX10_readDevice 3 (some .int) 2 42 tvI [.ref (bs + posC 8 o0), .ref (bs + posC 7 o1), .int x2] V z := by
  refine cm_of vwC_D (by decide +kernel) (own := RX10) rfl (Nat.le_of_ble_eq_true rfl) (L := [some (.ref (bs + posC 8 o0)), some (.ref (bs + posC 7 o1)), some (.int x2)]) rfl hz (fun Γ => ?_)
  unfold f_X10_readDevice
  refine ag_iload_n dX10_readDevice_0 rfl ?_
  refine ag_ldc kc_X10_193 dX10_readDevice_1 ?_
  refine ag_isub dX10_readDevice_3 ?_
  refine ag_if (fun h1 => ?_) (fun h1 => ?_)
  · refine ag_lk (off := 36) (tgt := 40) dX10_readDevice_4 (by decide) (by rw [h1]; decide) (by decide) ?_
    refine ag_aload_n dX10_readDevice_40 rfl ?_
    refine gC_X10_input ho0 fl_X10_14 dX10_readDevice_41 ?_
    refine ag_bnd (fun p2 hp2 => ?_)
    refine ag_ivIe (c_X6_pull 0 (by decide) hp2) vwC_D (vwC_at (kpC_5 _ (by decide))) rfl cs_X10_194 rfl rfl (Nat.le_of_ble_eq_true rfl) ⟨by decide, by decide⟩ ⟨Nat.zero_le _, Nat.zero_le _⟩ dX10_readDevice_44 ?_
    exact ag_irep dX10_readDevice_47
  · refine ag_if (fun h3 => ?_) (fun h3 => ?_)
    · refine ag_lk (off := 44) (tgt := 48) dX10_readDevice_4 (by decide) (by rw [h3]; decide) (by decide) ?_
      refine ag_aload_n dX10_readDevice_48 rfl ?_
      refine gC_X10_time ho0 fl_X10_78 dX10_readDevice_49 ?_
      exact ag_irep dX10_readDevice_52
    · refine ag_if (fun h4 => ?_) (fun h4 => ?_)
      · refine ag_lk (off := 49) (tgt := 53) dX10_readDevice_4 (by decide) (by rw [h4]; decide) (by decide) ?_
        refine ag_aload_n dX10_readDevice_53 rfl ?_
        refine gC_X9_number ho1 fl_X10_133 dX10_readDevice_54 ?_
        exact ag_irep dX10_readDevice_57
      · refine ag_lk (off := 54) (tgt := 58) dX10_readDevice_4 (by decide) (by show Op.lookupswitch.offset [(0, 36), (4, 44), (8, 49)] 54 _ = _; rw [lv_osw h1 (k := 0) (by decide), lv_osw h3 (k := 4) (by decide), lv_osw h4 (k := 8) (by decide)]; rfl) (by decide) ?_
        refine ag_iconst (v := 0) dX10_readDevice_58 (by decide) ?_
        exact ag_irep dX10_readDevice_59
set_option maxRecDepth 100000 in
set_option maxHeartbeats 4000000 in
theorem c_X8_loadCap {l : Launch} {D : va_G} {cy : Nat → ClassId} {bs kb : Nat} {V : HV} (o0 : Nat) (x1 : Int32) (o2 : Nat) (x3 : Bool) (ho0 : o0 < 1) (ho2 : o2 < 583) {z : HV} (hz : f_X8_loadCap kb o0 x1 o2 x3 V = some z) : CM l (aG 737 bs) D (tyL cy) (vwC cy bs kb) yX8_loadCap cX8_loadCap 5 none 2 46 tvV [.ref (bs + posC 6 o0), .int x1, .ref (bs + posC 0 o2), .int (b2i x3)] V ((), z) := by
  refine cm_of vwC_D (by decide +kernel) (own := RX8) rfl (Nat.le_of_ble_eq_true rfl) (L := [some (.ref (bs + posC 6 o0)), some (.int x1), some (.ref (bs + posC 0 o2)), some (.int (b2i x3)), none]) rfl hz (fun Γ => ?_)
  unfold f_X8_loadCap
  refine ag_aload_n dX8_loadCap_0 rfl ?_
  refine ag_iload_n dX8_loadCap_1 rfl ?_
  refine ag_bipush (v := 12) dX8_loadCap_2 (by decide) ?_
  refine ag_iadd dX8_loadCap_4 ?_
  refine ag_iconst (v := 4) dX8_loadCap_5 (by decide) ?_
  refine ag_bnd (fun p1 hp1 => ?_)
  refine ag_ivIp (c_X8_load o0 (x1 + 12) 4 ho0 hp1) vwC_D (vwC_at (kpC_6 _ ho0)) rfl cs_X8_32 rfl rfl (Nat.le_of_ble_eq_true rfl) ⟨by decide, by decide⟩ ⟨Nat.zero_le _, Nat.zero_le _⟩ dX8_loadCap_6 ?_
  refine ag_istore (L' := [some (.ref (bs + posC 6 o0)), some (.int x1), some (.ref (bs + posC 0 o2)), some (.int (b2i x3)), some (.int p1)]) dX8_loadCap_9 (by decide) rfl ?_
  refine ag_aload_n dX8_loadCap_11 rfl ?_
  refine ag_aload_n dX8_loadCap_12 rfl ?_
  refine ag_iload_n dX8_loadCap_13 rfl ?_
  refine ag_iconst (v := 4) dX8_loadCap_14 (by decide) ?_
  refine ag_bnd (fun p2 hp2 => ?_)
  refine ag_ivIp (c_X8_load o0 x1 4 ho0 hp2) vwC_D (vwC_at (kpC_6 _ ho0)) rfl cs_X8_32 rfl rfl (Nat.le_of_ble_eq_true rfl) ⟨by decide, by decide⟩ ⟨Nat.zero_le _, Nat.zero_le _⟩ dX8_loadCap_15 ?_
  refine ag_aload_n dX8_loadCap_18 rfl ?_
  refine ag_iload_n dX8_loadCap_19 rfl ?_
  refine ag_iconst (v := 4) dX8_loadCap_20 (by decide) ?_
  refine ag_iadd dX8_loadCap_21 ?_
  refine ag_iconst (v := 4) dX8_loadCap_22 (by decide) ?_
  refine ag_bnd (fun p3 hp3 => ?_)
  refine ag_ivIp (c_X8_load o0 (x1 + 4) 4 ho0 hp3) vwC_D (vwC_at (kpC_6 _ ho0)) rfl cs_X8_32 rfl rfl (Nat.le_of_ble_eq_true rfl) ⟨by decide, by decide⟩ ⟨Nat.zero_le _, Nat.zero_le _⟩ dX8_loadCap_23 ?_
  refine ag_aload_n dX8_loadCap_26 rfl ?_
  refine ag_iload_n dX8_loadCap_27 rfl ?_
  refine ag_bipush (v := 8) dX8_loadCap_28 (by decide) ?_
  refine ag_iadd dX8_loadCap_30 ?_
  refine ag_iconst (v := 4) dX8_loadCap_31 (by decide) ?_
  refine ag_bnd (fun p4 hp4 => ?_)
  refine ag_ivIp (c_X8_load o0 (x1 + 8) 4 ho0 hp4) vwC_D (vwC_at (kpC_6 _ ho0)) rfl cs_X8_32 rfl rfl (Nat.le_of_ble_eq_true rfl) ⟨by decide, by decide⟩ ⟨Nat.zero_le _, Nat.zero_le _⟩ dX8_loadCap_32 ?_
  refine ag_iload dX8_loadCap_35 rfl ?_
  refine ag_sipush (v := 255) dX8_loadCap_37 (by decide) ?_
  refine ag_iand dX8_loadCap_40 ?_
  refine ag_iload dX8_loadCap_41 rfl ?_
  refine ag_bipush (v := 8) dX8_loadCap_43 (by decide) ?_
  refine ag_ishr dX8_loadCap_45 ?_
  refine ag_sipush (v := 255) dX8_loadCap_46 (by decide) ?_
  refine ag_iand dX8_loadCap_49 ?_
  refine ag_iload_n dX8_loadCap_50 rfl ?_
  refine ag_jn1 (j := 68) (L1 := fun v5 => [some (.ref (bs + posC 6 o0)), some (.int x1), some (.ref (bs + posC 0 o2)), some (.int (b2i x3)), some (.int p1)]) (st1 := fun v5 => [.int (b2i v5), .int ((p1 >>> ((8 : Int32) &&& 31)) &&& 255), .int (p1 &&& 255), .int p4, .int p3, .int p2, .ref (bs + posC 0 o2)]) (ws1 := fun v5 => vwC cy bs kb V) (fun v5 => ?_) (fun k6 hk7 => ?_)
  · refine ag_ivVe (c_X0_set o2 p2 p3 p4 (p1 &&& 255) ((p1 >>> ((8 : Int32) &&& 31)) &&& 255) v5 ho2 rfl) vwC_D (vwC_at (kpC_0 _ ho2)) rfl cs_X8_39 rfl rfl (Nat.le_of_ble_eq_true rfl) ⟨by decide, by decide⟩ ⟨Nat.zero_le _, Nat.zero_le _⟩ dX8_loadCap_68 ?_
    refine ag_ltV (fun V8 => ?_)
    refine ag_aload_n dX8_loadCap_71 rfl ?_
    refine ag_aload_n dX8_loadCap_72 rfl ?_
    refine ag_bnd (fun p9 hp9 => ?_)
    refine ag_ivVe (c_X8_filter o0 o2 ho0 ho2 hp9) vwC_D (vwC_at (kpC_6 _ ho0)) rfl cs_X8_45 rfl rfl (Nat.le_of_ble_eq_true rfl) ⟨by decide, by decide⟩ ⟨Nat.zero_le _, Nat.zero_le _⟩ dX8_loadCap_73 ?_
    exact ag_vrep dX8_loadCap_76
  · refine ag_jn0 (j := 67) (L1 := [some (.ref (bs + posC 6 o0)), some (.int x1), some (.ref (bs + posC 0 o2)), some (.int (b2i x3)), some (.int p1)]) (st1 := [.int ((p1 >>> ((8 : Int32) &&& 31)) &&& 255), .int (p1 &&& 255), .int p4, .int p3, .int p2, .ref (bs + posC 0 o2)]) (ws1 := vwC cy bs kb V) (?_) (fun k10 hk11 => ?_)
    · refine ag_iconst (v := 0) dX8_loadCap_67 (by decide) ?_
      exact hk7 false
    · refine ag_bif_eq (tgt := 67) dX8_loadCap_51 (by decide) (fun h12 => ?_) (fun h12 => ?_)
      · exact hk11
      · refine ag_aload_n dX8_loadCap_54 rfl ?_
        refine ag_iload_n dX8_loadCap_55 rfl ?_
        refine ag_iconst (v := 1) dX8_loadCap_56 (by decide) ?_
        refine ag_bnd (fun p13 hp13 => ?_)
        refine ag_ivZp (c_X8_isMarked o0 x1 1 ho0 hp13) vwC_D (vwC_at (kpC_6 _ ho0)) rfl cs_X8_36 rfl rfl (Nat.le_of_ble_eq_true rfl) ⟨by decide, by decide⟩ ⟨Nat.zero_le _, Nat.zero_le _⟩ dX8_loadCap_57 ?_
        refine ag_bif_eq (tgt := 67) dX8_loadCap_60 (by decide) (fun h14 => ?_) (fun h14 => ?_)
        · exact hk11
        · refine ag_iconst (v := 1) dX8_loadCap_63 (by decide) ?_
          refine ag_goto (tgt := 68) dX8_loadCap_64 (by decide) ?_
          exact hk7 true
set_option maxRecDepth 100000 in
set_option maxHeartbeats 4000000 in
theorem c_X2_withSign {l : Launch} {D : va_G} {cy : Nat → ClassId} {bs kb : Nat} {V : HV} (x0 : Int32) (x1 : Int32) {z : Int32} (hz : f_X2_withSign x0 x1 = z) : CM l (aG 737 bs) D (tyL cy) (vwC cy bs kb) yX2_withSign cX2_withSign 2 (some .int) 0 0 tvI [.int x0, .int x1] V (z, V) := by
  refine cm_of vwC_D (by decide +kernel) (own := RX2) rfl (Nat.le_of_ble_eq_true rfl) (L := [some (.int x0), some (.int x1)]) rfl hz (fun Γ => ?_)
  unfold f_X2_withSign
  refine ag_iload_n dX2_withSign_0 rfl ?_
  refine ag_if (fun h1 => ?_) (fun h1 => ?_)
  · refine ag_lk (off := 27) (tgt := 28) dX2_withSign_1 (by decide) (by rw [h1]; decide) (by decide) ?_
    refine ag_iload_n dX2_withSign_28 rfl ?_
    refine ag_i2b dX2_withSign_29 ?_
    exact ag_irp dX2_withSign_30
  · refine ag_if (fun h2 => ?_) (fun h2 => ?_)
    · refine ag_lk (off := 30) (tgt := 31) dX2_withSign_1 (by decide) (by rw [h2]; decide) (by decide) ?_
      refine ag_iload_n dX2_withSign_31 rfl ?_
      refine ag_i2s dX2_withSign_32 ?_
      exact ag_irp dX2_withSign_33
    · refine ag_lk (off := 33) (tgt := 34) dX2_withSign_1 (by decide) (by show Op.lookupswitch.offset [(0, 27), (1, 30)] 33 _ = _; rw [lv_osw h1 (k := 0) (by decide), lv_osw h2 (k := 1) (by decide)]; rfl) (by decide) ?_
      refine ag_iload_n dX2_withSign_34 rfl ?_
      exact ag_irp dX2_withSign_35
set_option maxRecDepth 100000 in
set_option maxHeartbeats 4000000 in
theorem c_X2_load {l : Launch} {D : va_G} {cy : Nat → ClassId} {bs kb : Nat} {V : HV} (o0 : Nat) (o1 : Nat) (x2 : Int32) (ho0 : o0 < 1) (ho1 : o1 < 6) {z : Int32 × HV} (hz : f_X2_load kb o0 o1 x2 V = some z) : CM l (aG 737 bs) D (tyL cy) (vwC cy bs kb) yX2_load cX2_load 8 (some .int) 3 70 tvI [.ref (bs + posC 8 o0), .ref (bs + posC 7 o1), .int x2] V z := by
  refine cm_of vwC_D (by decide +kernel) (own := RX2) rfl (Nat.le_of_ble_eq_true rfl) (L := [some (.ref (bs + posC 8 o0)), some (.ref (bs + posC 7 o1)), some (.int x2), none, none, none, none, none]) rfl hz (fun Γ => ?_)
  unfold f_X2_load
  refine ag_aload_n dX2_load_0 rfl ?_
  refine ag_iload_n dX2_load_1 rfl ?_
  refine ag_isIp (c_X2_aField x2  rfl) vwC_D cs_X2_84 rfl rfl (Nat.le_of_ble_eq_true rfl) ⟨by decide, by decide⟩ ⟨Nat.zero_le _, Nat.zero_le _⟩ dX2_load_2 ?_
  refine ag_ltI (fun v1 => ?_)
  refine ag_ivRp (c_X9_reg o1 v1 ho1 rfl) vwC_D (vwC_at (kpC_7 _ ho1)) rfl cs_X2_71 rfl rfl (Nat.le_of_ble_eq_true rfl) ⟨by decide, by decide⟩ ⟨Nat.zero_le _, Nat.zero_le _⟩ dX2_load_5 ?_
  refine ag_astore_n (L' := [some (.ref (bs + posC 8 o0)), some (.ref (bs + posC 7 o1)), some (.int x2), some (.ref (bs + posC 0 (f_X9_reg o1 v1))), none, none, none, none]) dX2_load_8 (by decide) rfl ?_
  refine ag_aload_n dX2_load_9 rfl ?_
  refine ag_iload_n dX2_load_10 rfl ?_
  refine ag_isIp (c_X2_dField x2  rfl) vwC_D cs_X2_9 rfl rfl (Nat.le_of_ble_eq_true rfl) ⟨by decide, by decide⟩ ⟨Nat.zero_le _, Nat.zero_le _⟩ dX2_load_11 ?_
  refine ag_ltI (fun v2 => ?_)
  refine ag_ivRp (c_X9_reg o1 v2 ho1 rfl) vwC_D (vwC_at (kpC_7 _ ho1)) rfl cs_X2_71 rfl rfl (Nat.le_of_ble_eq_true rfl) ⟨by decide, by decide⟩ ⟨Nat.zero_le _, Nat.zero_le _⟩ dX2_load_14 ?_
  refine ag_astore (L' := [some (.ref (bs + posC 8 o0)), some (.ref (bs + posC 7 o1)), some (.int x2), some (.ref (bs + posC 0 (f_X9_reg o1 v1))), some (.ref (bs + posC 0 (f_X9_reg o1 v2))), none, none, none]) dX2_load_17 (by decide) rfl ?_
  refine ag_iload_n dX2_load_19 rfl ?_
  refine ag_isIp (c_X2_f x2  rfl) vwC_D cs_X2_78 rfl rfl (Nat.le_of_ble_eq_true rfl) ⟨by decide, by decide⟩ ⟨Nat.zero_le _, Nat.zero_le _⟩ dX2_load_20 ?_
  refine ag_ltI (fun v3 => ?_)
  refine ag_istore (L' := [some (.ref (bs + posC 8 o0)), some (.ref (bs + posC 7 o1)), some (.int x2), some (.ref (bs + posC 0 (f_X9_reg o1 v1))), some (.ref (bs + posC 0 (f_X9_reg o1 v2))), some (.int v3), none, none]) dX2_load_23 (by decide) rfl ?_
  refine ag_aload_n dX2_load_25 rfl ?_
  refine gC_X0_cursor (ok_X9_reg ho1) fl_X2_31 dX2_load_26 ?_
  refine ag_iload_n dX2_load_29 rfl ?_
  refine ag_isIp (c_X2_immediate x2  rfl) vwC_D cs_X2_143 rfl rfl (Nat.le_of_ble_eq_true rfl) ⟨by decide, by decide⟩ ⟨Nat.zero_le _, Nat.zero_le _⟩ dX2_load_30 ?_
  refine ag_ltI (fun v4 => ?_)
  refine ag_iadd dX2_load_33 ?_
  refine ag_ltI (fun v5 => ?_)
  refine ag_istore (L' := [some (.ref (bs + posC 8 o0)), some (.ref (bs + posC 7 o1)), some (.int x2), some (.ref (bs + posC 0 (f_X9_reg o1 v1))), some (.ref (bs + posC 0 (f_X9_reg o1 v2))), some (.int v3), some (.int v5), none]) dX2_load_34 (by decide) rfl ?_
  refine ag_aload_n dX2_load_36 rfl ?_
  refine ag_iconst (v := 1) dX2_load_37 (by decide) ?_
  refine ag_iload dX2_load_38 rfl ?_
  refine ag_iload dX2_load_40 rfl ?_
  refine ag_isIp (c_X2_sizeOf v3  rfl) vwC_D cs_X2_158 rfl rfl (Nat.le_of_ble_eq_true rfl) ⟨by decide, by decide⟩ ⟨Nat.zero_le _, Nat.zero_le _⟩ dX2_load_42 ?_
  refine ag_ltI (fun v6 => ?_)
  refine ag_ivIp (c_X0_faultFor (f_X9_reg o1 v1) 1 v5 v6 (ok_X9_reg ho1) rfl) vwC_D (vwC_at (kpC_0 _ (ok_X9_reg ho1))) rfl cs_X2_36 rfl rfl (Nat.le_of_ble_eq_true rfl) ⟨by decide, by decide⟩ ⟨Nat.zero_le _, Nat.zero_le _⟩ dX2_load_45 ?_
  refine ag_ltI (fun v7 => ?_)
  refine ag_istore (L' := [some (.ref (bs + posC 8 o0)), some (.ref (bs + posC 7 o1)), some (.int x2), some (.ref (bs + posC 0 (f_X9_reg o1 v1))), some (.ref (bs + posC 0 (f_X9_reg o1 v2))), some (.int v3), some (.int v5), some (.int v7)]) dX2_load_48 (by decide) rfl ?_
  refine ag_iload dX2_load_50 rfl ?_
  refine ag_if_eq (tgt := 58) dX2_load_52 (by decide) (fun h8 => ?_) (fun h8 => ?_)
  · refine ag_iload dX2_load_58 rfl ?_
    refine ag_isZp (c_X2_isDevice v5  rfl) vwC_D cs_X2_161 rfl rfl (Nat.le_of_ble_eq_true rfl) ⟨by decide, by decide⟩ ⟨Nat.zero_le _, Nat.zero_le _⟩ dX2_load_60 ?_
    refine ag_ltZ (fun v9 => ?_)
    refine ag_bif_eq (tgt := 89) dX2_load_63 (by decide) (fun h10 => ?_) (fun h10 => ?_)
    · refine ag_iload dX2_load_89 rfl ?_
      refine ag_iconst (v := 3) dX2_load_91 (by decide) ?_
      refine ag_icmp_ne (tgt := 115) dX2_load_92 (by decide) (fun h11 => ?_) (fun h11 => ?_)
      · refine ag_aload dX2_load_115 rfl ?_
        refine ag_iload dX2_load_117 rfl ?_
        refine ag_aload_n dX2_load_119 rfl ?_
        refine gC_X10_store ho0 fl_X2_40 dX2_load_120 ?_
        refine ag_iload dX2_load_123 rfl ?_
        refine ag_iload dX2_load_125 rfl ?_
        refine ag_isIp (c_X2_sizeOf v3  rfl) vwC_D cs_X2_158 rfl rfl (Nat.le_of_ble_eq_true rfl) ⟨by decide, by decide⟩ ⟨Nat.zero_le _, Nat.zero_le _⟩ dX2_load_127 ?_
        refine ag_ltI (fun v12 => ?_)
        refine ag_bnd (fun p13 hp13 => ?_)
        refine ag_ivIp (c_X8_load 0 v5 v12 (by decide) hp13) vwC_D (vwC_at (kpC_6 _ (by decide))) rfl cs_X2_44 rfl rfl (Nat.le_of_ble_eq_true rfl) ⟨by decide, by decide⟩ ⟨Nat.zero_le _, Nat.zero_le _⟩ dX2_load_130 ?_
        refine ag_isIp (c_X2_withSign v3 p13  rfl) vwC_D cs_X2_174 rfl rfl (Nat.le_of_ble_eq_true rfl) ⟨by decide, by decide⟩ ⟨Nat.zero_le _, Nat.zero_le _⟩ dX2_load_133 ?_
        refine ag_ltI (fun v14 => ?_)
        refine ag_ivVe (c_X0_number (f_X9_reg o1 v2) v14 (ok_X9_reg ho1) rfl) vwC_D (vwC_at (kpC_0 _ (ok_X9_reg ho1))) rfl cs_X2_94 rfl rfl (Nat.le_of_ble_eq_true rfl) ⟨by decide, by decide⟩ ⟨Nat.zero_le _, Nat.zero_le _⟩ dX2_load_136 ?_
        refine ag_ltV (fun V15 => ?_)
        refine ag_iconst (v := 0) dX2_load_139 (by decide) ?_
        exact ag_irep dX2_load_140
      · refine ag_aload_n dX2_load_95 rfl ?_
        refine gC_X10_store ho0 fl_X2_40 dX2_load_96 ?_
        refine ag_iload dX2_load_99 rfl ?_
        refine ag_aload dX2_load_101 rfl ?_
        refine ag_aload_n dX2_load_103 rfl ?_
        refine ag_bipush (v := 8) dX2_load_104 (by decide) ?_
        refine ag_ivZp (c_X0_has (f_X9_reg o1 v1) 8 (ok_X9_reg ho1) rfl) vwC_D (vwC_at (kpC_0 _ (ok_X9_reg ho1))) rfl cs_X2_167 rfl rfl (Nat.le_of_ble_eq_true rfl) ⟨by decide, by decide⟩ ⟨Nat.zero_le _, Nat.zero_le _⟩ dX2_load_106 ?_
        refine ag_ltZ (fun v16 => ?_)
        refine ag_bnd (fun p17 hp17 => ?_)
        refine ag_ivVe (c_X8_loadCap 0 v5 (f_X9_reg o1 v2) v16 (by decide) (ok_X9_reg ho1) hp17) vwC_D (vwC_at (kpC_6 _ (by decide))) rfl cs_X2_170 rfl rfl (Nat.le_of_ble_eq_true rfl) ⟨by decide, by decide⟩ ⟨Nat.zero_le _, Nat.zero_le _⟩ dX2_load_109 ?_
        refine ag_goto (tgt := 139) dX2_load_112 (by decide) ?_
        refine ag_iconst (v := 0) dX2_load_139 (by decide) ?_
        exact ag_irep dX2_load_140
    · refine ag_iload dX2_load_66 rfl ?_
      refine ag_iconst (v := 2) dX2_load_68 (by decide) ?_
      refine ag_icmp_eq (tgt := 74) dX2_load_69 (by decide) (fun h18 => ?_) (fun h18 => ?_)
      · refine ag_aload dX2_load_74 rfl ?_
        refine ag_aload_n dX2_load_76 rfl ?_
        refine ag_aload_n dX2_load_77 rfl ?_
        refine ag_iload dX2_load_78 rfl ?_
        refine ag_bnd (fun p19 hp19 => ?_)
        refine ag_ivIe (c_X10_readDevice o0 o1 v5 ho0 ho1 hp19) vwC_D (vwC_at (kpC_8 _ ho0)) rfl cs_X2_164 rfl rfl (Nat.le_of_ble_eq_true rfl) ⟨by decide, by decide⟩ ⟨Nat.zero_le _, Nat.zero_le _⟩ dX2_load_80 ?_
        refine ag_ivVe (c_X0_number (f_X9_reg o1 v2) p19.1 (ok_X9_reg ho1) rfl) vwC_D (vwC_at (kpC_0 _ (ok_X9_reg ho1))) rfl cs_X2_94 rfl rfl (Nat.le_of_ble_eq_true rfl) ⟨by decide, by decide⟩ ⟨Nat.zero_le _, Nat.zero_le _⟩ dX2_load_83 ?_
        refine ag_ltV (fun V20 => ?_)
        refine ag_goto (tgt := 139) dX2_load_86 (by decide) ?_
        refine ag_iconst (v := 0) dX2_load_139 (by decide) ?_
        exact ag_irep dX2_load_140
      · refine ag_iconst (v := 5) dX2_load_72 (by decide) ?_
        exact ag_irep dX2_load_73
  · refine ag_iload dX2_load_55 rfl ?_
    exact ag_irep dX2_load_57
set_option maxRecDepth 100000 in
set_option maxHeartbeats 4000000 in
theorem c_X6_push {l : Launch} {D : va_G} {cy : Nat → ClassId} {bs kb : Nat} {V : HV} (o0 : Nat) (x1 : Int32) (ho0 : o0 < 2) {z : HV} (hz : f_X6_push kb o0 x1 V = some z) : CM l (aG 737 bs) D (tyL cy) (vwC cy bs kb) yX6_push cX6_push 3 none 2 42 tvV [.ref (bs + posC 5 o0), .int x1] V ((), z) := by
  refine cm_of vwC_D (by decide +kernel) (own := RX6) rfl (Nat.le_of_ble_eq_true rfl) (L := [some (.ref (bs + posC 5 o0)), some (.int x1), none]) rfl hz (fun Γ => ?_)
  unfold f_X6_push
  refine ag_aload_n dX6_push_0 rfl ?_
  refine gC_X6_length ho0 fl_X6_19 dX6_push_1 ?_
  refine ag_aload_n dX6_push_4 rfl ?_
  refine gC_X6_bytes ho0 fl_X6_9 dX6_push_5 ?_
  refine nC_20 ho0 dX6_push_8 ?_
  refine ag_jn1 (j := 17) (L1 := fun V1 => [some (.ref (bs + posC 5 o0)), some (.int x1), none]) (st1 := fun V1 => []) (ws1 := fun V1 => vwC cy bs kb V1) (fun V1 => ?_) (fun k2 hk3 => ?_)
  · refine ag_aload_n dX6_push_17 rfl ?_
    refine ag_aload_n dX6_push_18 rfl ?_
    refine gC_X6_first ho0 fl_X6_15 dX6_push_19 ?_
    refine ag_aload_n dX6_push_22 rfl ?_
    refine gC_X6_length ho0 fl_X6_19 dX6_push_23 ?_
    refine ag_iadd dX6_push_26 ?_
    refine ag_ivIp (c_X6_at o0 ((V1 501 o0 0) + (V1 502 o0 0)) ho0 rfl) vwC_D (vwC_at (kpC_5 _ ho0)) rfl cs_X6_26 rfl rfl (Nat.le_of_ble_eq_true rfl) ⟨by decide, by decide⟩ ⟨Nat.zero_le _, Nat.zero_le _⟩ dX6_push_27 ?_
    refine ag_ltI (fun v4 => ?_)
    refine ag_istore_n (L' := [some (.ref (bs + posC 5 o0)), some (.int x1), some (.int v4)]) dX6_push_30 (by decide) rfl ?_
    refine ag_iload_n dX6_push_31 rfl ?_
    refine ag_if_lt (tgt := 62) dX6_push_32 (by decide) (fun h5 => ?_) (fun h5 => ?_)
    · exact ag_vrep dX6_push_62
    · refine ag_iload_n dX6_push_35 rfl ?_
      refine ag_aload_n dX6_push_36 rfl ?_
      refine gC_X6_bytes ho0 fl_X6_9 dX6_push_37 ?_
      refine nC_20 ho0 dX6_push_40 ?_
      refine ag_icmp_ge (tgt := 62) dX6_push_41 (by decide) (fun h6 => ?_) (fun h6 => ?_)
      · exact ag_vrep dX6_push_62
      · refine ag_aload_n dX6_push_44 rfl ?_
        refine gC_X6_bytes ho0 fl_X6_9 dX6_push_45 ?_
        refine ag_iload_n dX6_push_48 rfl ?_
        refine ag_iload_n dX6_push_49 rfl ?_
        refine ag_i2b dX6_push_50 ?_
        refine ag_chk (fun h7 => ?_)
        refine sC_20 ho0 h7 dX6_push_51 ?_
        refine ag_ltV (fun V8 => ?_)
        refine ag_aload_n dX6_push_52 rfl ?_
        refine ag_dup dX6_push_53 rfl ?_
        refine gC_X6_length ho0 fl_X6_19 dX6_push_54 ?_
        refine ag_iconst (v := 1) dX6_push_57 (by decide) ?_
        refine ag_iadd dX6_push_58 ?_
        refine pC_X6_length ho0 fl_X6_19 dX6_push_59 ?_
        refine ag_ltV (fun V9 => ?_)
        exact ag_vrep dX6_push_62
  · refine ag_icmp_lt (tgt := 17) dX6_push_9 (by decide) (fun h10 => ?_) (fun h10 => ?_)
    · exact hk3 V
    · refine ag_aload_n dX6_push_12 rfl ?_
      refine ag_bnd (fun p11 hp11 => ?_)
      refine ag_ivIe (c_X6_pull o0 ho0 hp11) vwC_D (vwC_at (kpC_5 _ ho0)) rfl cs_X6_22 rfl rfl (Nat.le_of_ble_eq_true rfl) ⟨by decide, by decide⟩ ⟨Nat.zero_le _, Nat.zero_le _⟩ dX6_push_13 ?_
      refine ag_pop dX6_push_16 rfl ?_
      exact hk3 p11.2
set_option maxRecDepth 100000 in
set_option maxHeartbeats 4000000 in
theorem c_X10_writeDevice {l : Launch} {D : va_G} {cy : Nat → ClassId} {bs kb : Nat} {V : HV} (o0 : Nat) (x1 : Int32) (x2 : Int32) (ho0 : o0 < 1) {z : HV} (hz : f_X10_writeDevice kb o0 x1 x2 V = some z) : CM l (aG 737 bs) D (tyL cy) (vwC cy bs kb) yX10_writeDevice cX10_writeDevice 3 none 3 64 tvV [.ref (bs + posC 8 o0), .int x1, .int x2] V ((), z) := by
  refine cm_of vwC_D (by decide +kernel) (own := RX10) rfl (Nat.le_of_ble_eq_true rfl) (L := [some (.ref (bs + posC 8 o0)), some (.int x1), some (.int x2)]) rfl hz (fun Γ => ?_)
  unfold f_X10_writeDevice
  refine ag_iload_n dX10_writeDevice_0 rfl ?_
  refine ag_ldc kc_X10_193 dX10_writeDevice_1 ?_
  refine ag_icmp_ne (tgt := 14) dX10_writeDevice_3 (by decide) (fun h1 => ?_) (fun h1 => ?_)
  · exact ag_vrep dX10_writeDevice_14
  · refine ag_aload_n dX10_writeDevice_6 rfl ?_
    refine gC_X10_output ho0 fl_X10_20 dX10_writeDevice_7 ?_
    refine ag_iload_n dX10_writeDevice_10 rfl ?_
    refine ag_bnd (fun p2 hp2 => ?_)
    refine ag_ivVe (c_X6_push 1 x2 (by decide) hp2) vwC_D (vwC_at (kpC_5 _ (by decide))) rfl cs_X10_197 rfl rfl (Nat.le_of_ble_eq_true rfl) ⟨by decide, by decide⟩ ⟨Nat.zero_le _, Nat.zero_le _⟩ dX10_writeDevice_11 ?_
    exact ag_vrep dX10_writeDevice_14
set_option maxRecDepth 100000 in
set_option maxHeartbeats 4000000 in
theorem c_X8_write {l : Launch} {D : va_G} {cy : Nat → ClassId} {bs kb : Nat} {V : HV} (o0 : Nat) (x1 : Int32) (x2 : Int32) (x3 : Int32) (ho0 : o0 < 1) {z : HV} (hz : f_X8_write kb o0 x1 x2 x3 V = some z) : CM l (aG 737 bs) D (tyL cy) (vwC cy bs kb) yX8_write cX8_write 6 none 1 25 tvV [.ref (bs + posC 6 o0), .int x1, .int x2, .int x3] V ((), z) := by
  refine cm_of vwC_D (by decide +kernel) (own := RX8) rfl (Nat.le_of_ble_eq_true rfl) (L := [some (.ref (bs + posC 6 o0)), some (.int x1), some (.int x2), some (.int x3), none, none]) rfl hz (fun Γ => ?_)
  unfold f_X8_write
  refine ag_aload_n dX8_write_0 rfl ?_
  refine ag_iload_n dX8_write_1 rfl ?_
  refine ag_iload_n dX8_write_2 rfl ?_
  refine ag_ivZp (c_X8_has o0 x1 x2 ho0 rfl) vwC_D (vwC_at (kpC_6 _ ho0)) rfl cs_X8_24 rfl rfl (Nat.le_of_ble_eq_true rfl) ⟨by decide, by decide⟩ ⟨Nat.zero_le _, Nat.zero_le _⟩ dX8_write_3 ?_
  refine ag_ltZ (fun v1 => ?_)
  refine ag_bif_eq (tgt := 53) dX8_write_6 (by decide) (fun h2 => ?_) (fun h2 => ?_)
  · exact ag_vrep dX8_write_53
  · refine ag_iload_n dX8_write_9 rfl ?_
    refine ag_istore (L' := [some (.ref (bs + posC 6 o0)), some (.int x1), some (.int x2), some (.int x3), some (.int x3), none]) dX8_write_10 (by decide) rfl ?_
    refine ag_iconst (v := 0) dX8_write_12 (by decide) ?_
    refine ag_istore (L' := [some (.ref (bs + posC 6 o0)), some (.int x1), some (.int x2), some (.int x3), some (.int x3), some (.int 0)]) dX8_write_13 (by decide) rfl ?_
    refine ag_jn1 (j := 46) (L1 := fun V5 => [some (.ref (bs + posC 6 o0)), some (.int x1), some (.int x2), some (.int x3), none, none]) (st1 := fun V5 => []) (ws1 := fun V5 => vwC cy bs kb V5) (fun V5 => ?_) (fun k3 hk4 => ?_)
    · refine ag_aload_n dX8_write_46 rfl ?_
      refine ag_iload_n dX8_write_47 rfl ?_
      refine ag_iconst (v := 1) dX8_write_48 (by decide) ?_
      refine ag_iconst (v := 0) dX8_write_49 (by decide) ?_
      refine ag_bnd (fun p6 hp6 => ?_)
      refine ag_ivVe (c_X8_mark o0 x1 1 false ho0 hp6) vwC_D (vwC_at (kpC_6 _ ho0)) rfl cs_X8_28 rfl rfl (Nat.le_of_ble_eq_true rfl) ⟨by decide, by decide⟩ ⟨Nat.zero_le _, Nat.zero_le _⟩ dX8_write_50 ?_
      exact ag_vrep dX8_write_53
    · refine ag_loop3 (F := f_X8_write_L15 x1 x2 kb k3) (L1 := fun v7 v8 V9 => [some (.ref (bs + posC 6 o0)), some (.int x1), some (.int x2), some (.int x3), some (.int v7), some (.int v8)]) (st1 := fun v7 v8 V9 => []) (ws1 := fun v7 v8 V9 => vwC cy bs kb V9) (fun n10 ih11 v7 v8 V9 => ?_) (fun _ _ _ => rfl) FU x3 0 V
      rw [f_X8_write_L15]
      refine ag_iload dX8_write_15 rfl ?_
      refine ag_iload_n dX8_write_17 rfl ?_
      refine ag_icmp_ge (tgt := 46) dX8_write_18 (by decide) (fun h12 => ?_) (fun h12 => ?_)
      · refine ag_drop [4, 5] (L' := [some (.ref (bs + posC 6 o0)), some (.int x1), some (.int x2), some (.int x3), none, none]) rfl ?_
        exact hk4 V9
      · refine ag_aload_n dX8_write_21 rfl ?_
        refine gC_X8_bytes ho0 fl_X8_9 dX8_write_22 ?_
        refine ag_iload_n dX8_write_25 rfl ?_
        refine ag_iload dX8_write_26 rfl ?_
        refine ag_iadd dX8_write_28 ?_
        refine ag_iload dX8_write_29 rfl ?_
        refine ag_i2b dX8_write_31 ?_
        refine ag_chk (fun h13 => ?_)
        refine sC_23 (by decide) h13 dX8_write_32 ?_
        refine ag_ltV (fun V14 => ?_)
        refine ag_iload dX8_write_33 rfl ?_
        refine ag_bipush (v := 8) dX8_write_35 (by decide) ?_
        refine ag_iushr dX8_write_37 ?_
        refine ag_ltI (fun v15 => ?_)
        refine ag_istore (L' := [some (.ref (bs + posC 6 o0)), some (.int x1), some (.int x2), some (.int x3), some (.int v15), some (.int v8)]) dX8_write_38 (by decide) rfl ?_
        refine ag_iincL (L' := fun v16 => [some (.ref (bs + posC 6 o0)), some (.int x1), some (.int x2), some (.int x3), some (.int v15), some (.int v16)]) dX8_write_40 (by decide) rfl (by decide) (fun _ => rfl) (fun v16 => ?_)
        refine ag_goto (tgt := 15) dX8_write_43 (by decide) ?_
        exact ih11 v15 v16 V14
set_option maxRecDepth 100000 in
set_option maxHeartbeats 4000000 in
theorem c_X8_writeCap {l : Launch} {D : va_G} {cy : Nat → ClassId} {bs kb : Nat} {V : HV} (o0 : Nat) (x1 : Int32) (o2 : Nat) (x3 : Bool) (ho0 : o0 < 1) (ho2 : o2 < 583) {z : HV} (hz : f_X8_writeCap kb o0 x1 o2 x3 V = some z) : CM l (aG 737 bs) D (tyL cy) (vwC cy bs kb) yX8_writeCap cX8_writeCap 4 none 2 50 tvV [.ref (bs + posC 6 o0), .int x1, .ref (bs + posC 0 o2), .int (b2i x3)] V ((), z) := by
  refine cm_of vwC_D (by decide +kernel) (own := RX8) rfl (Nat.le_of_ble_eq_true rfl) (L := [some (.ref (bs + posC 6 o0)), some (.int x1), some (.ref (bs + posC 0 o2)), some (.int (b2i x3))]) rfl hz (fun Γ => ?_)
  unfold f_X8_writeCap
  refine ag_aload_n dX8_writeCap_0 rfl ?_
  refine ag_iload_n dX8_writeCap_1 rfl ?_
  refine ag_iconst (v := 4) dX8_writeCap_2 (by decide) ?_
  refine ag_aload_n dX8_writeCap_3 rfl ?_
  refine gC_X0_cursor ho2 fl_X8_49 dX8_writeCap_4 ?_
  refine ag_bnd (fun p1 hp1 => ?_)
  refine ag_ivVe (c_X8_write o0 x1 4 (V 0 o2 0) ho0 hp1) vwC_D (vwC_at (kpC_6 _ ho0)) rfl cs_X8_53 rfl rfl (Nat.le_of_ble_eq_true rfl) ⟨by decide, by decide⟩ ⟨Nat.zero_le _, Nat.zero_le _⟩ dX8_writeCap_7 ?_
  refine ag_aload_n dX8_writeCap_10 rfl ?_
  refine ag_iload_n dX8_writeCap_11 rfl ?_
  refine ag_iconst (v := 4) dX8_writeCap_12 (by decide) ?_
  refine ag_iadd dX8_writeCap_13 ?_
  refine ag_iconst (v := 4) dX8_writeCap_14 (by decide) ?_
  refine ag_aload_n dX8_writeCap_15 rfl ?_
  refine gC_X0_base ho2 fl_X8_57 dX8_writeCap_16 ?_
  refine ag_bnd (fun p2 hp2 => ?_)
  refine ag_ivVe (c_X8_write o0 (x1 + 4) 4 (p1 1 o2 0) ho0 hp2) vwC_D (vwC_at (kpC_6 _ ho0)) rfl cs_X8_53 rfl rfl (Nat.le_of_ble_eq_true rfl) ⟨by decide, by decide⟩ ⟨Nat.zero_le _, Nat.zero_le _⟩ dX8_writeCap_19 ?_
  refine ag_aload_n dX8_writeCap_22 rfl ?_
  refine ag_iload_n dX8_writeCap_23 rfl ?_
  refine ag_bipush (v := 8) dX8_writeCap_24 (by decide) ?_
  refine ag_iadd dX8_writeCap_26 ?_
  refine ag_iconst (v := 4) dX8_writeCap_27 (by decide) ?_
  refine ag_aload_n dX8_writeCap_28 rfl ?_
  refine gC_X0_top ho2 fl_X8_60 dX8_writeCap_29 ?_
  refine ag_bnd (fun p3 hp3 => ?_)
  refine ag_ivVe (c_X8_write o0 (x1 + 8) 4 (p2 2 o2 0) ho0 hp3) vwC_D (vwC_at (kpC_6 _ ho0)) rfl cs_X8_53 rfl rfl (Nat.le_of_ble_eq_true rfl) ⟨by decide, by decide⟩ ⟨Nat.zero_le _, Nat.zero_le _⟩ dX8_writeCap_32 ?_
  refine ag_aload_n dX8_writeCap_35 rfl ?_
  refine ag_iload_n dX8_writeCap_36 rfl ?_
  refine ag_bipush (v := 12) dX8_writeCap_37 (by decide) ?_
  refine ag_iadd dX8_writeCap_39 ?_
  refine ag_iconst (v := 4) dX8_writeCap_40 (by decide) ?_
  refine ag_aload_n dX8_writeCap_41 rfl ?_
  refine gC_X0_perms ho2 fl_X8_63 dX8_writeCap_42 ?_
  refine ag_aload_n dX8_writeCap_45 rfl ?_
  refine gC_X0_type ho2 fl_X8_66 dX8_writeCap_46 ?_
  refine ag_bipush (v := 8) dX8_writeCap_49 (by decide) ?_
  refine ag_ishl dX8_writeCap_51 ?_
  refine ag_ior dX8_writeCap_52 ?_
  refine ag_bnd (fun p4 hp4 => ?_)
  refine ag_ivVe (c_X8_write o0 (x1 + 12) 4 ((p3 3 o2 0) ||| ((p3 4 o2 0) <<< ((8 : Int32) &&& 31))) ho0 hp4) vwC_D (vwC_at (kpC_6 _ ho0)) rfl cs_X8_53 rfl rfl (Nat.le_of_ble_eq_true rfl) ⟨by decide, by decide⟩ ⟨Nat.zero_le _, Nat.zero_le _⟩ dX8_writeCap_53 ?_
  refine ag_aload_n dX8_writeCap_56 rfl ?_
  refine ag_iload_n dX8_writeCap_57 rfl ?_
  refine ag_iconst (v := 1) dX8_writeCap_58 (by decide) ?_
  refine ag_iload_n dX8_writeCap_59 rfl ?_
  refine ag_bnd (fun p5 hp5 => ?_)
  refine ag_ivVe (c_X8_mark o0 x1 1 x3 ho0 hp5) vwC_D (vwC_at (kpC_6 _ ho0)) rfl cs_X8_28 rfl rfl (Nat.le_of_ble_eq_true rfl) ⟨by decide, by decide⟩ ⟨Nat.zero_le _, Nat.zero_le _⟩ dX8_writeCap_60 ?_
  exact ag_vrep dX8_writeCap_63
