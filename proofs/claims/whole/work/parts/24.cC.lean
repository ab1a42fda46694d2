set_option maxRecDepth 100000 in
set_option maxHeartbeats 4000000 in
theorem c_X2_write {l : Launch} {D : va_G} {cy : Nat → ClassId} {bs kb : Nat} {V : HV} (o0 : Nat) (o1 : Nat) (x2 : Int32) (ho0 : o0 < 1) (ho1 : o1 < 6) {z : Int32 × HV} (hz : f_X2_write kb o0 o1 x2 V = some z) : CM l (aG 737 bs) D (tyL cy) (vwC cy bs kb) yX2_write cX2_write 9 (some .int) 4 86 tvI [.ref (bs + posC 8 o0), .ref (bs + posC 7 o1), .int x2] V z := by
  refine cm_of vwC_D (by decide +kernel) (own := RX2) rfl (Nat.le_of_ble_eq_true rfl) (L := [some (.ref (bs + posC 8 o0)), some (.ref (bs + posC 7 o1)), some (.int x2), none, none, none, none, none, none]) rfl hz (fun Γ => ?_)
  unfold f_X2_write
  refine ag_aload_n dX2_write_0 rfl ?_
  refine ag_iload_n dX2_write_1 rfl ?_
  refine ag_isIp (c_X2_aField x2  rfl) vwC_D cs_X2_84 rfl rfl (Nat.le_of_ble_eq_true rfl) ⟨by decide, by decide⟩ ⟨Nat.zero_le _, Nat.zero_le _⟩ dX2_write_2 ?_
  refine ag_ltI (fun v1 => ?_)
  refine ag_ivRp (c_X9_reg o1 v1 ho1 rfl) vwC_D (vwC_at (kpC_7 _ ho1)) rfl cs_X2_71 rfl rfl (Nat.le_of_ble_eq_true rfl) ⟨by decide, by decide⟩ ⟨Nat.zero_le _, Nat.zero_le _⟩ dX2_write_5 ?_
  refine ag_astore_n (L' := [some (.ref (bs + posC 8 o0)), some (.ref (bs + posC 7 o1)), some (.int x2), some (.ref (bs + posC 0 (f_X9_reg o1 v1))), none, none, none, none, none]) dX2_write_8 (by decide) rfl ?_
  refine ag_aload_n dX2_write_9 rfl ?_
  refine ag_iload_n dX2_write_10 rfl ?_
  refine ag_isIp (c_X2_bField x2  rfl) vwC_D cs_X2_87 rfl rfl (Nat.le_of_ble_eq_true rfl) ⟨by decide, by decide⟩ ⟨Nat.zero_le _, Nat.zero_le _⟩ dX2_write_11 ?_
  refine ag_ltI (fun v2 => ?_)
  refine ag_ivRp (c_X9_reg o1 v2 ho1 rfl) vwC_D (vwC_at (kpC_7 _ ho1)) rfl cs_X2_71 rfl rfl (Nat.le_of_ble_eq_true rfl) ⟨by decide, by decide⟩ ⟨Nat.zero_le _, Nat.zero_le _⟩ dX2_write_14 ?_
  refine ag_astore (L' := [some (.ref (bs + posC 8 o0)), some (.ref (bs + posC 7 o1)), some (.int x2), some (.ref (bs + posC 0 (f_X9_reg o1 v1))), some (.ref (bs + posC 0 (f_X9_reg o1 v2))), none, none, none, none]) dX2_write_17 (by decide) rfl ?_
  refine ag_iload_n dX2_write_19 rfl ?_
  refine ag_isIp (c_X2_f x2  rfl) vwC_D cs_X2_78 rfl rfl (Nat.le_of_ble_eq_true rfl) ⟨by decide, by decide⟩ ⟨Nat.zero_le _, Nat.zero_le _⟩ dX2_write_20 ?_
  refine ag_ltI (fun v3 => ?_)
  refine ag_istore (L' := [some (.ref (bs + posC 8 o0)), some (.ref (bs + posC 7 o1)), some (.int x2), some (.ref (bs + posC 0 (f_X9_reg o1 v1))), some (.ref (bs + posC 0 (f_X9_reg o1 v2))), some (.int v3), none, none, none]) dX2_write_23 (by decide) rfl ?_
  refine ag_aload_n dX2_write_25 rfl ?_
  refine gC_X0_cursor (ok_X9_reg ho1) fl_X2_31 dX2_write_26 ?_
  refine ag_iload_n dX2_write_29 rfl ?_
  refine ag_isIp (c_X2_storeOffset x2  rfl) vwC_D cs_X2_177 rfl rfl (Nat.le_of_ble_eq_true rfl) ⟨by decide, by decide⟩ ⟨Nat.zero_le _, Nat.zero_le _⟩ dX2_write_30 ?_
  refine ag_ltI (fun v4 => ?_)
  refine ag_iadd dX2_write_33 ?_
  refine ag_ltI (fun v5 => ?_)
  refine ag_istore (L' := [some (.ref (bs + posC 8 o0)), some (.ref (bs + posC 7 o1)), some (.int x2), some (.ref (bs + posC 0 (f_X9_reg o1 v1))), some (.ref (bs + posC 0 (f_X9_reg o1 v2))), some (.int v3), some (.int v5), none, none]) dX2_write_34 (by decide) rfl ?_
  refine ag_aload_n dX2_write_36 rfl ?_
  refine ag_iconst (v := 2) dX2_write_37 (by decide) ?_
  refine ag_iload dX2_write_38 rfl ?_
  refine ag_iload dX2_write_40 rfl ?_
  refine ag_isIp (c_X2_sizeOf v3  rfl) vwC_D cs_X2_158 rfl rfl (Nat.le_of_ble_eq_true rfl) ⟨by decide, by decide⟩ ⟨Nat.zero_le _, Nat.zero_le _⟩ dX2_write_42 ?_
  refine ag_ltI (fun v6 => ?_)
  refine ag_ivIp (c_X0_faultFor (f_X9_reg o1 v1) 2 v5 v6 (ok_X9_reg ho1) rfl) vwC_D (vwC_at (kpC_0 _ (ok_X9_reg ho1))) rfl cs_X2_36 rfl rfl (Nat.le_of_ble_eq_true rfl) ⟨by decide, by decide⟩ ⟨Nat.zero_le _, Nat.zero_le _⟩ dX2_write_45 ?_
  refine ag_ltI (fun v7 => ?_)
  refine ag_istore (L' := [some (.ref (bs + posC 8 o0)), some (.ref (bs + posC 7 o1)), some (.int x2), some (.ref (bs + posC 0 (f_X9_reg o1 v1))), some (.ref (bs + posC 0 (f_X9_reg o1 v2))), some (.int v3), some (.int v5), some (.int v7), none]) dX2_write_48 (by decide) rfl ?_
  refine ag_iload dX2_write_50 rfl ?_
  refine ag_if_eq (tgt := 58) dX2_write_52 (by decide) (fun h8 => ?_) (fun h8 => ?_)
  · refine ag_iload dX2_write_58 rfl ?_
    refine ag_isZp (c_X2_isDevice v5  rfl) vwC_D cs_X2_161 rfl rfl (Nat.le_of_ble_eq_true rfl) ⟨by decide, by decide⟩ ⟨Nat.zero_le _, Nat.zero_le _⟩ dX2_write_60 ?_
    refine ag_ltZ (fun v9 => ?_)
    refine ag_bif_eq (tgt := 88) dX2_write_63 (by decide) (fun h10 => ?_) (fun h10 => ?_)
    · refine ag_iload dX2_write_88 rfl ?_
      refine ag_iconst (v := 3) dX2_write_90 (by decide) ?_
      refine ag_icmp_ne (tgt := 162) dX2_write_91 (by decide) (fun h11 => ?_) (fun h11 => ?_)
      · refine ag_aload_n dX2_write_162 rfl ?_
        refine gC_X10_store ho0 fl_X2_40 dX2_write_163 ?_
        refine ag_iload dX2_write_166 rfl ?_
        refine ag_iload dX2_write_168 rfl ?_
        refine ag_isIp (c_X2_sizeOf v3  rfl) vwC_D cs_X2_158 rfl rfl (Nat.le_of_ble_eq_true rfl) ⟨by decide, by decide⟩ ⟨Nat.zero_le _, Nat.zero_le _⟩ dX2_write_170 ?_
        refine ag_ltI (fun v12 => ?_)
        refine ag_aload dX2_write_173 rfl ?_
        refine gC_X0_cursor (ok_X9_reg ho1) fl_X2_31 dX2_write_175 ?_
        refine ag_bnd (fun p13 hp13 => ?_)
        refine ag_ivVe (c_X8_write 0 v5 v12 (V 0 (f_X9_reg o1 v2) 0) (by decide) hp13) vwC_D (vwC_at (kpC_6 _ (by decide))) rfl cs_X2_190 rfl rfl (Nat.le_of_ble_eq_true rfl) ⟨by decide, by decide⟩ ⟨Nat.zero_le _, Nat.zero_le _⟩ dX2_write_178 ?_
        refine ag_iconst (v := 0) dX2_write_181 (by decide) ?_
        exact ag_irep dX2_write_182
      · refine ag_aload_n dX2_write_94 rfl ?_
        refine ag_bipush (v := 16) dX2_write_95 (by decide) ?_
        refine ag_ivZp (c_X0_has (f_X9_reg o1 v1) 16 (ok_X9_reg ho1) rfl) vwC_D (vwC_at (kpC_0 _ (ok_X9_reg ho1))) rfl cs_X2_167 rfl rfl (Nat.le_of_ble_eq_true rfl) ⟨by decide, by decide⟩ ⟨Nat.zero_le _, Nat.zero_le _⟩ dX2_write_97 ?_
        refine ag_ltZ (fun v14 => ?_)
        refine ag_dv (j := 128) (L1 := fun _ => [some (.ref (bs + posC 8 o0)), some (.ref (bs + posC 7 o1)), some (.int x2), some (.ref (bs + posC 0 (f_X9_reg o1 v1))), some (.ref (bs + posC 0 (f_X9_reg o1 v2))), some (.int v3), some (.int v5), some (.int v7), none]) (st1 := fun v15 => [.int (b2i v15)]) (ws1 := fun _ => vwC cy bs kb V) (fun v15 => ?_) (fun k23 hk16 => ?_)
        · refine ag_istore (L' := [some (.ref (bs + posC 8 o0)), some (.ref (bs + posC 7 o1)), some (.int x2), some (.ref (bs + posC 0 (f_X9_reg o1 v1))), some (.ref (bs + posC 0 (f_X9_reg o1 v2))), some (.int v3), some (.int v5), some (.int v7), some (.int (b2i v15))]) dX2_write_128 (by decide) rfl ?_
          refine ag_aload_n dX2_write_130 rfl ?_
          refine gC_X10_store ho0 fl_X2_40 dX2_write_131 ?_
          refine ag_iload dX2_write_134 rfl ?_
          refine ag_aload dX2_write_136 rfl ?_
          refine ag_aload dX2_write_138 rfl ?_
          refine gC_X0_tagged (ok_X9_reg ho1) fl_X2_184 dX2_write_140 ?_
          refine ag_dv (j := 156) (L1 := fun _ => [some (.ref (bs + posC 8 o0)), some (.ref (bs + posC 7 o1)), some (.int x2), some (.ref (bs + posC 0 (f_X9_reg o1 v1))), some (.ref (bs + posC 0 (f_X9_reg o1 v2))), some (.int v3), some (.int v5), some (.int v7), some (.int (b2i v15))]) (st1 := fun v17 => [.int (b2i v17), .ref (bs + posC 0 (f_X9_reg o1 v2)), .int v5, .ref (bs + posC 6 0)]) (ws1 := fun _ => vwC cy bs kb V) (fun v17 => ?_) (fun k20 hk18 => ?_)
          · refine ag_bnd (fun p19 hp19 => ?_)
            refine ag_ivVe (c_X8_writeCap 0 v5 (f_X9_reg o1 v2) v17 (by decide) (ok_X9_reg ho1) hp19) vwC_D (vwC_at (kpC_6 _ (by decide))) rfl cs_X2_187 rfl rfl (Nat.le_of_ble_eq_true rfl) ⟨by decide, by decide⟩ ⟨Nat.zero_le _, Nat.zero_le _⟩ dX2_write_156 ?_
            refine ag_goto (tgt := 181) dX2_write_159 (by decide) ?_
            refine ag_iconst (v := 0) dX2_write_181 (by decide) ?_
            exact ag_irep dX2_write_182
          · refine ag_bif_eq_v (tgt := 155) dX2_write_143 (by decide) (fun h21 => ?_) (fun h21 => ?_)
            · refine ag_iconst (v := 0) dX2_write_155 (by decide) ?_
              exact hk18 false
            · refine ag_iload dX2_write_146 rfl ?_
              refine ag_bif_eq_v (tgt := 155) dX2_write_148 (by decide) (fun h22 => ?_) (fun h22 => ?_)
              · refine ag_iconst (v := 0) dX2_write_155 (by decide) ?_
                exact hk18 false
              · refine ag_iconst (v := 1) dX2_write_151 (by decide) ?_
                refine ag_goto (tgt := 156) dX2_write_152 (by decide) ?_
                exact hk18 true
        · refine ag_bif_eq_v (tgt := 127) dX2_write_100 (by decide) (fun h24 => ?_) (fun h24 => ?_)
          · refine ag_iconst (v := 0) dX2_write_127 (by decide) ?_
            exact hk16 false
          · refine ag_aload dX2_write_103 rfl ?_
            refine ag_bipush (v := 64) dX2_write_105 (by decide) ?_
            refine ag_ivZp (c_X0_has (f_X9_reg o1 v2) 64 (ok_X9_reg ho1) rfl) vwC_D (vwC_at (kpC_0 _ (ok_X9_reg ho1))) rfl cs_X2_167 rfl rfl (Nat.le_of_ble_eq_true rfl) ⟨by decide, by decide⟩ ⟨Nat.zero_le _, Nat.zero_le _⟩ dX2_write_107 ?_
            refine ag_bif_ne_v (tgt := 123) dX2_write_110 (by decide) (fun h25 => ?_) (fun h25 => ?_)
            · refine ag_iconst (v := 1) dX2_write_123 (by decide) ?_
              refine ag_goto (tgt := 128) dX2_write_124 (by decide) ?_
              exact hk16 true
            · refine ag_aload_n dX2_write_113 rfl ?_
              refine ag_sipush (v := 128) dX2_write_114 (by decide) ?_
              refine ag_ivZp (c_X0_has (f_X9_reg o1 v1) 128 (ok_X9_reg ho1) rfl) vwC_D (vwC_at (kpC_0 _ (ok_X9_reg ho1))) rfl cs_X2_167 rfl rfl (Nat.le_of_ble_eq_true rfl) ⟨by decide, by decide⟩ ⟨Nat.zero_le _, Nat.zero_le _⟩ dX2_write_117 ?_
              refine ag_bif_eq_v (tgt := 127) dX2_write_120 (by decide) (fun h26 => ?_) (fun h26 => ?_)
              · refine ag_iconst (v := 0) dX2_write_127 (by decide) ?_
                exact hk16 false
              · refine ag_iconst (v := 1) dX2_write_123 (by decide) ?_
                refine ag_goto (tgt := 128) dX2_write_124 (by decide) ?_
                exact hk16 true
    · refine ag_iload dX2_write_66 rfl ?_
      refine ag_iconst (v := 2) dX2_write_68 (by decide) ?_
      refine ag_icmp_eq (tgt := 74) dX2_write_69 (by decide) (fun h27 => ?_) (fun h27 => ?_)
      · refine ag_aload_n dX2_write_74 rfl ?_
        refine ag_iload dX2_write_75 rfl ?_
        refine ag_aload dX2_write_77 rfl ?_
        refine gC_X0_cursor (ok_X9_reg ho1) fl_X2_31 dX2_write_79 ?_
        refine ag_bnd (fun p28 hp28 => ?_)
        refine ag_ivVe (c_X10_writeDevice o0 v5 (V 0 (f_X9_reg o1 v2) 0) ho0 hp28) vwC_D (vwC_at (kpC_8 _ ho0)) rfl cs_X2_180 rfl rfl (Nat.le_of_ble_eq_true rfl) ⟨by decide, by decide⟩ ⟨Nat.zero_le _, Nat.zero_le _⟩ dX2_write_82 ?_
        refine ag_goto (tgt := 181) dX2_write_85 (by decide) ?_
        refine ag_iconst (v := 0) dX2_write_181 (by decide) ?_
        exact ag_irep dX2_write_182
      · refine ag_iconst (v := 5) dX2_write_72 (by decide) ?_
        exact ag_irep dX2_write_73
  · refine ag_iload dX2_write_55 rfl ?_
    exact ag_irep dX2_write_57
set_option maxRecDepth 100000 in
set_option maxHeartbeats 4000000 in
theorem c_X2_derive {l : Launch} {D : va_G} {cy : Nat → ClassId} {bs kb : Nat} {V : HV} (o0 : Nat) (o1 : Nat) (x2 : Int32) (ho0 : o0 < 583) (ho1 : o1 < 583) {z : HV} (hz : f_X2_derive kb o0 o1 x2 V = z) : CM l (aG 737 bs) D (tyL cy) (vwC cy bs kb) yX2_derive cX2_derive 3 none 3 65 tvV [.ref (bs + posC 0 o0), .ref (bs + posC 0 o1), .int x2] V ((), z) := by
  refine cm_of vwC_D (by decide +kernel) (own := RX2) rfl (Nat.le_of_ble_eq_true rfl) (L := [some (.ref (bs + posC 0 o0)), some (.ref (bs + posC 0 o1)), some (.int x2)]) rfl hz (fun Γ => ?_)
  unfold f_X2_derive
  refine ag_iload_n dX2_derive_0 rfl ?_
  refine ag_if (fun h1 => ?_) (fun h1 => ?_)
  · refine ag_tab (off := 43) (tgt := 44) h1 dX2_derive_1 (by decide) (by decide) (by decide) (by decide) ?_
    refine ag_aload_n dX2_derive_44 rfl ?_
    refine ag_aload_n dX2_derive_45 rfl ?_
    refine gC_X0_cursor ho0 fl_X2_31 dX2_derive_46 ?_
    refine ag_aload_n dX2_derive_49 rfl ?_
    refine gC_X0_cursor ho1 fl_X2_31 dX2_derive_50 ?_
    refine ag_iadd dX2_derive_53 ?_
    refine ag_ivVe (c_X0_moveTo o0 ((V 0 o0 0) + (V 0 o1 0)) ho0 rfl) vwC_D (vwC_at (kpC_0 _ ho0)) rfl cs_X2_204 rfl rfl (Nat.le_of_ble_eq_true rfl) ⟨by decide, by decide⟩ ⟨Nat.zero_le _, Nat.zero_le _⟩ dX2_derive_54 ?_
    refine ag_ltV (fun V2 => ?_)
    refine ag_goto (tgt := 149) dX2_derive_57 (by decide) ?_
    exact ag_vre dX2_derive_149
  · refine ag_if (fun h3 => ?_) (fun h3 => ?_)
    · refine ag_tab (off := 59) (tgt := 60) h3 dX2_derive_1 (by decide) (by decide) (by decide) (by decide) ?_
      refine ag_aload_n dX2_derive_60 rfl ?_
      refine ag_aload_n dX2_derive_61 rfl ?_
      refine gC_X0_cursor ho1 fl_X2_31 dX2_derive_62 ?_
      refine ag_ivVe (c_X0_moveTo o0 (V 0 o1 0) ho0 rfl) vwC_D (vwC_at (kpC_0 _ ho0)) rfl cs_X2_204 rfl rfl (Nat.le_of_ble_eq_true rfl) ⟨by decide, by decide⟩ ⟨Nat.zero_le _, Nat.zero_le _⟩ dX2_derive_65 ?_
      refine ag_ltV (fun V4 => ?_)
      refine ag_goto (tgt := 149) dX2_derive_68 (by decide) ?_
      exact ag_vre dX2_derive_149
    · refine ag_if (fun h5 => ?_) (fun h5 => ?_)
      · refine ag_tab (off := 70) (tgt := 71) h5 dX2_derive_1 (by decide) (by decide) (by decide) (by decide) ?_
        refine ag_aload_n dX2_derive_71 rfl ?_
        refine ag_aload_n dX2_derive_72 rfl ?_
        refine gC_X0_cursor ho1 fl_X2_31 dX2_derive_73 ?_
        refine ag_inJp (c_X11_unsigned (V 0 o1 0)  rfl) vwC_D cs_X2_139 rfl rfl (Nat.le_of_ble_eq_true rfl) ⟨by decide, by decide⟩ ⟨Nat.zero_le _, Nat.zero_le _⟩ dX2_derive_76 ?_
        refine ag_ltJ (fun v6 => ?_)
        refine ag_ivVe (c_X0_narrow o0 v6 ho0 rfl) vwC_D (vwC_at (kpC_0 _ ho0)) rfl cs_X2_207 rfl rfl (Nat.le_of_ble_eq_true rfl) ⟨by decide, by decide⟩ ⟨Nat.zero_le _, Nat.zero_le _⟩ dX2_derive_79 ?_
        refine ag_ltV (fun V7 => ?_)
        refine ag_goto (tgt := 149) dX2_derive_82 (by decide) ?_
        exact ag_vre dX2_derive_149
      · refine ag_if (fun h8 => ?_) (fun h8 => ?_)
        · refine ag_tab (off := 84) (tgt := 85) h8 dX2_derive_1 (by decide) (by decide) (by decide) (by decide) ?_
          refine ag_aload_n dX2_derive_85 rfl ?_
          refine ag_aload_n dX2_derive_86 rfl ?_
          refine gC_X0_cursor ho1 fl_X2_31 dX2_derive_87 ?_
          refine ag_ivVe (c_X0_limit o0 (V 0 o1 0) ho0 rfl) vwC_D (vwC_at (kpC_0 _ ho0)) rfl cs_X2_211 rfl rfl (Nat.le_of_ble_eq_true rfl) ⟨by decide, by decide⟩ ⟨Nat.zero_le _, Nat.zero_le _⟩ dX2_derive_90 ?_
          refine ag_ltV (fun V9 => ?_)
          refine ag_goto (tgt := 149) dX2_derive_93 (by decide) ?_
          exact ag_vre dX2_derive_149
        · refine ag_if (fun h10 => ?_) (fun h10 => ?_)
          · refine ag_tab (off := 95) (tgt := 96) h10 dX2_derive_1 (by decide) (by decide) (by decide) (by decide) ?_
            refine ag_aload_n dX2_derive_96 rfl ?_
            refine ag_aload_n dX2_derive_97 rfl ?_
            refine ag_ivVe (c_X0_seal o0 o1 ho0 ho1 rfl) vwC_D (vwC_at (kpC_0 _ ho0)) rfl cs_X2_214 rfl rfl (Nat.le_of_ble_eq_true rfl) ⟨by decide, by decide⟩ ⟨Nat.zero_le _, Nat.zero_le _⟩ dX2_derive_98 ?_
            refine ag_ltV (fun V11 => ?_)
            refine ag_goto (tgt := 149) dX2_derive_101 (by decide) ?_
            exact ag_vre dX2_derive_149
          · refine ag_if (fun h12 => ?_) (fun h12 => ?_)
            · refine ag_tab (off := 103) (tgt := 104) h12 dX2_derive_1 (by decide) (by decide) (by decide) (by decide) ?_
              refine ag_aload_n dX2_derive_104 rfl ?_
              refine ag_aload_n dX2_derive_105 rfl ?_
              refine ag_ivVe (c_X0_unseal o0 o1 ho0 ho1 rfl) vwC_D (vwC_at (kpC_0 _ ho0)) rfl cs_X2_217 rfl rfl (Nat.le_of_ble_eq_true rfl) ⟨by decide, by decide⟩ ⟨Nat.zero_le _, Nat.zero_le _⟩ dX2_derive_106 ?_
              refine ag_ltV (fun V13 => ?_)
              refine ag_goto (tgt := 149) dX2_derive_109 (by decide) ?_
              exact ag_vre dX2_derive_149
            · refine ag_if (fun h14 => ?_) (fun h14 => ?_)
              · refine ag_tab (off := 111) (tgt := 112) h14 dX2_derive_1 (by decide) (by decide) (by decide) (by decide) ?_
                refine ag_aload_n dX2_derive_112 rfl ?_
                refine ag_aload_n dX2_derive_113 rfl ?_
                refine ag_aload_n dX2_derive_114 rfl ?_
                refine ag_ivZp (c_X0_isWithin o1 o0 ho1 ho0 rfl) vwC_D (vwC_at (kpC_0 _ ho1)) rfl cs_X2_220 rfl rfl (Nat.le_of_ble_eq_true rfl) ⟨by decide, by decide⟩ ⟨Nat.zero_le _, Nat.zero_le _⟩ dX2_derive_115 ?_
                refine ag_ltZ (fun v15 => ?_)
                refine ag_dv (j := 126) (L1 := fun _ => [some (.ref (bs + posC 0 o0)), some (.ref (bs + posC 0 o1)), some (.int x2)]) (st1 := fun v16 => [.int (b2i v16), .ref (bs + posC 0 o0)]) (ws1 := fun _ => vwC cy bs kb V) (fun v16 => ?_) (fun k19 hk17 => ?_)
                · refine ag_ivVe (c_X0_number o0 (b2i v16) ho0 rfl) vwC_D (vwC_at (kpC_0 _ ho0)) rfl cs_X2_94 rfl rfl (Nat.le_of_ble_eq_true rfl) ⟨by decide, by decide⟩ ⟨Nat.zero_le _, Nat.zero_le _⟩ dX2_derive_126 ?_
                  refine ag_ltV (fun V18 => ?_)
                  refine ag_goto (tgt := 149) dX2_derive_129 (by decide) ?_
                  exact ag_vre dX2_derive_149
                · refine ag_bif_eq_v (tgt := 125) dX2_derive_118 (by decide) (fun h20 => ?_) (fun h20 => ?_)
                  · refine ag_iconst (v := 0) dX2_derive_125 (by decide) ?_
                    exact hk17 false
                  · refine ag_iconst (v := 1) dX2_derive_121 (by decide) ?_
                    refine ag_goto (tgt := 126) dX2_derive_122 (by decide) ?_
                    exact hk17 true
              · refine ag_tabD (tgt := 132) dX2_derive_1 (by have z0 := lv_neT h1 (k := 0) (a := 0) (by decide); have z1 := lv_neT h3 (k := 1) (a := 1) (by decide); have z2 := lv_neT h5 (k := 2) (a := 2) (by decide); have z3 := lv_neT h8 (k := 3) (a := 3) (by decide); have z4 := lv_neT h10 (k := 4) (a := 4) (by decide); have z5 := lv_neT h12 (k := 5) (a := 5) (by decide); have z6 := lv_neT h14 (k := 6) (a := 6) (by decide); omega) (by decide) ?_
                refine ag_aload_n dX2_derive_132 rfl ?_
                refine ag_aload_n dX2_derive_133 rfl ?_
                refine ag_aload_n dX2_derive_134 rfl ?_
                refine ag_ivZp (c_X0_isLike o1 o0 ho1 ho0 rfl) vwC_D (vwC_at (kpC_0 _ ho1)) rfl cs_X2_224 rfl rfl (Nat.le_of_ble_eq_true rfl) ⟨by decide, by decide⟩ ⟨Nat.zero_le _, Nat.zero_le _⟩ dX2_derive_135 ?_
                refine ag_ltZ (fun v21 => ?_)
                refine ag_dv (j := 146) (L1 := fun _ => [some (.ref (bs + posC 0 o0)), some (.ref (bs + posC 0 o1)), some (.int x2)]) (st1 := fun v22 => [.int (b2i v22), .ref (bs + posC 0 o0)]) (ws1 := fun _ => vwC cy bs kb V) (fun v22 => ?_) (fun k25 hk23 => ?_)
                · refine ag_ivVe (c_X0_number o0 (b2i v22) ho0 rfl) vwC_D (vwC_at (kpC_0 _ ho0)) rfl cs_X2_94 rfl rfl (Nat.le_of_ble_eq_true rfl) ⟨by decide, by decide⟩ ⟨Nat.zero_le _, Nat.zero_le _⟩ dX2_derive_146 ?_
                  refine ag_ltV (fun V24 => ?_)
                  exact ag_vre dX2_derive_149
                · refine ag_bif_eq_v (tgt := 145) dX2_derive_138 (by decide) (fun h26 => ?_) (fun h26 => ?_)
                  · refine ag_iconst (v := 0) dX2_derive_145 (by decide) ?_
                    exact hk23 false
                  · refine ag_iconst (v := 1) dX2_derive_141 (by decide) ?_
                    refine ag_goto (tgt := 146) dX2_derive_142 (by decide) ?_
                    exact hk23 true
set_option maxRecDepth 100000 in
set_option maxHeartbeats 4000000 in
theorem c_X2_inspect {l : Launch} {D : va_G} {cy : Nat → ClassId} {bs kb : Nat} {V : HV} (o0 : Nat) (x1 : Int32) (x2 : Bool) (ho0 : o0 < 583) {z : HV} (hz : f_X2_inspect kb o0 x1 x2 V = z) : CM l (aG 737 bs) D (tyL cy) (vwC cy bs kb) yX2_inspect cX2_inspect 3 none 2 47 tvV [.ref (bs + posC 0 o0), .int x1, .int (b2i x2)] V ((), z) := by
  refine cm_of vwC_D (by decide +kernel) (own := RX2) rfl (Nat.le_of_ble_eq_true rfl) (L := [some (.ref (bs + posC 0 o0)), some (.int x1), some (.int (b2i x2))]) rfl hz (fun Γ => ?_)
  unfold f_X2_inspect
  refine ag_iload_n dX2_inspect_0 rfl ?_
  refine ag_if (fun h1 => ?_) (fun h1 => ?_)
  · refine ag_tab (off := 55) (tgt := 56) h1 dX2_inspect_1 (by decide) (by decide) (by decide) (by decide) ?_
    refine ag_aload_n dX2_inspect_56 rfl ?_
    refine ag_aload_n dX2_inspect_57 rfl ?_
    refine gC_X0_perms ho0 fl_X2_227 dX2_inspect_58 ?_
    refine ag_ivVe (c_X0_number o0 (V 3 o0 0) ho0 rfl) vwC_D (vwC_at (kpC_0 _ ho0)) rfl cs_X2_94 rfl rfl (Nat.le_of_ble_eq_true rfl) ⟨by decide, by decide⟩ ⟨Nat.zero_le _, Nat.zero_le _⟩ dX2_inspect_61 ?_
    refine ag_ltV (fun V2 => ?_)
    refine ag_goto (tgt := 181) dX2_inspect_64 (by decide) ?_
    exact ag_vre dX2_inspect_181
  · refine ag_if (fun h3 => ?_) (fun h3 => ?_)
    · refine ag_tab (off := 66) (tgt := 67) h3 dX2_inspect_1 (by decide) (by decide) (by decide) (by decide) ?_
      refine ag_aload_n dX2_inspect_67 rfl ?_
      refine ag_aload_n dX2_inspect_68 rfl ?_
      refine gC_X0_type ho0 fl_X2_136 dX2_inspect_69 ?_
      refine ag_ivVe (c_X0_number o0 (V 4 o0 0) ho0 rfl) vwC_D (vwC_at (kpC_0 _ ho0)) rfl cs_X2_94 rfl rfl (Nat.le_of_ble_eq_true rfl) ⟨by decide, by decide⟩ ⟨Nat.zero_le _, Nat.zero_le _⟩ dX2_inspect_72 ?_
      refine ag_ltV (fun V4 => ?_)
      refine ag_goto (tgt := 181) dX2_inspect_75 (by decide) ?_
      exact ag_vre dX2_inspect_181
    · refine ag_if (fun h5 => ?_) (fun h5 => ?_)
      · refine ag_tab (off := 77) (tgt := 78) h5 dX2_inspect_1 (by decide) (by decide) (by decide) (by decide) ?_
        refine ag_aload_n dX2_inspect_78 rfl ?_
        refine ag_aload_n dX2_inspect_79 rfl ?_
        refine gC_X0_base ho0 fl_X2_230 dX2_inspect_80 ?_
        refine ag_ivVe (c_X0_number o0 (V 1 o0 0) ho0 rfl) vwC_D (vwC_at (kpC_0 _ ho0)) rfl cs_X2_94 rfl rfl (Nat.le_of_ble_eq_true rfl) ⟨by decide, by decide⟩ ⟨Nat.zero_le _, Nat.zero_le _⟩ dX2_inspect_83 ?_
        refine ag_ltV (fun V6 => ?_)
        refine ag_goto (tgt := 181) dX2_inspect_86 (by decide) ?_
        exact ag_vre dX2_inspect_181
      · refine ag_if (fun h7 => ?_) (fun h7 => ?_)
        · refine ag_tab (off := 88) (tgt := 89) h7 dX2_inspect_1 (by decide) (by decide) (by decide) (by decide) ?_
          refine ag_aload_n dX2_inspect_89 rfl ?_
          refine ag_aload_n dX2_inspect_90 rfl ?_
          refine gC_X0_top ho0 fl_X2_233 dX2_inspect_91 ?_
          refine ag_aload_n dX2_inspect_94 rfl ?_
          refine gC_X0_base ho0 fl_X2_230 dX2_inspect_95 ?_
          refine ag_isub dX2_inspect_98 ?_
          refine ag_ivVe (c_X0_number o0 ((V 2 o0 0) - (V 1 o0 0)) ho0 rfl) vwC_D (vwC_at (kpC_0 _ ho0)) rfl cs_X2_94 rfl rfl (Nat.le_of_ble_eq_true rfl) ⟨by decide, by decide⟩ ⟨Nat.zero_le _, Nat.zero_le _⟩ dX2_inspect_99 ?_
          refine ag_ltV (fun V8 => ?_)
          refine ag_goto (tgt := 181) dX2_inspect_102 (by decide) ?_
          exact ag_vre dX2_inspect_181
        · refine ag_if (fun h9 => ?_) (fun h9 => ?_)
          · refine ag_tab (off := 104) (tgt := 105) h9 dX2_inspect_1 (by decide) (by decide) (by decide) (by decide) ?_
            refine ag_aload_n dX2_inspect_105 rfl ?_
            refine ag_aload_n dX2_inspect_106 rfl ?_
            refine gC_X0_tagged ho0 fl_X2_184 dX2_inspect_107 ?_
            refine ag_dv (j := 118) (L1 := fun _ => [some (.ref (bs + posC 0 o0)), some (.int x1), some (.int (b2i x2))]) (st1 := fun v10 => [.int (b2i v10), .ref (bs + posC 0 o0)]) (ws1 := fun _ => vwC cy bs kb V) (fun v10 => ?_) (fun k13 hk11 => ?_)
            · refine ag_ivVe (c_X0_number o0 (b2i v10) ho0 rfl) vwC_D (vwC_at (kpC_0 _ ho0)) rfl cs_X2_94 rfl rfl (Nat.le_of_ble_eq_true rfl) ⟨by decide, by decide⟩ ⟨Nat.zero_le _, Nat.zero_le _⟩ dX2_inspect_118 ?_
              refine ag_ltV (fun V12 => ?_)
              refine ag_goto (tgt := 181) dX2_inspect_121 (by decide) ?_
              exact ag_vre dX2_inspect_181
            · refine ag_bif_eq_v (tgt := 117) dX2_inspect_110 (by decide) (fun h14 => ?_) (fun h14 => ?_)
              · refine ag_iconst (v := 0) dX2_inspect_117 (by decide) ?_
                exact hk11 false
              · refine ag_iconst (v := 1) dX2_inspect_113 (by decide) ?_
                refine ag_goto (tgt := 118) dX2_inspect_114 (by decide) ?_
                exact hk11 true
          · refine ag_if (fun h15 => ?_) (fun h15 => ?_)
            · refine ag_tab (off := 123) (tgt := 124) h15 dX2_inspect_1 (by decide) (by decide) (by decide) (by decide) ?_
              refine ag_aload_n dX2_inspect_124 rfl ?_
              refine ag_aload_n dX2_inspect_125 rfl ?_
              refine gC_X0_top ho0 fl_X2_233 dX2_inspect_126 ?_
              refine ag_ivVe (c_X0_number o0 (V 2 o0 0) ho0 rfl) vwC_D (vwC_at (kpC_0 _ ho0)) rfl cs_X2_94 rfl rfl (Nat.le_of_ble_eq_true rfl) ⟨by decide, by decide⟩ ⟨Nat.zero_le _, Nat.zero_le _⟩ dX2_inspect_129 ?_
              refine ag_ltV (fun V16 => ?_)
              refine ag_goto (tgt := 181) dX2_inspect_132 (by decide) ?_
              exact ag_vre dX2_inspect_181
            · refine ag_if (fun h17 => ?_) (fun h17 => ?_)
              · refine ag_tab (off := 134) (tgt := 135) h17 dX2_inspect_1 (by decide) (by decide) (by decide) (by decide) ?_
                refine ag_aload_n dX2_inspect_135 rfl ?_
                refine ag_aload_n dX2_inspect_136 rfl ?_
                refine gC_X0_cursor ho0 fl_X2_31 dX2_inspect_137 ?_
                refine ag_ivVe (c_X0_number o0 (V 0 o0 0) ho0 rfl) vwC_D (vwC_at (kpC_0 _ ho0)) rfl cs_X2_94 rfl rfl (Nat.le_of_ble_eq_true rfl) ⟨by decide, by decide⟩ ⟨Nat.zero_le _, Nat.zero_le _⟩ dX2_inspect_140 ?_
                refine ag_ltV (fun V18 => ?_)
                refine ag_goto (tgt := 181) dX2_inspect_143 (by decide) ?_
                exact ag_vre dX2_inspect_181
              · refine ag_if (fun h19 => ?_) (fun h19 => ?_)
                · refine ag_tab (off := 145) (tgt := 146) h19 dX2_inspect_1 (by decide) (by decide) (by decide) (by decide) ?_
                  refine ag_aload_n dX2_inspect_146 rfl ?_
                  refine ag_iload_n dX2_inspect_147 rfl ?_
                  refine ag_dv (j := 156) (L1 := fun _ => [some (.ref (bs + posC 0 o0)), some (.int x1), some (.int (b2i x2))]) (st1 := fun v20 => [.int (b2i v20), .ref (bs + posC 0 o0)]) (ws1 := fun _ => vwC cy bs kb V) (fun v20 => ?_) (fun k23 hk21 => ?_)
                  · refine ag_ivVe (c_X0_number o0 (b2i v20) ho0 rfl) vwC_D (vwC_at (kpC_0 _ ho0)) rfl cs_X2_94 rfl rfl (Nat.le_of_ble_eq_true rfl) ⟨by decide, by decide⟩ ⟨Nat.zero_le _, Nat.zero_le _⟩ dX2_inspect_156 ?_
                    refine ag_ltV (fun V22 => ?_)
                    refine ag_goto (tgt := 181) dX2_inspect_159 (by decide) ?_
                    exact ag_vre dX2_inspect_181
                  · refine ag_bif_eq_v (tgt := 155) dX2_inspect_148 (by decide) (fun h24 => ?_) (fun h24 => ?_)
                    · refine ag_iconst (v := 0) dX2_inspect_155 (by decide) ?_
                      exact hk21 false
                    · refine ag_iconst (v := 1) dX2_inspect_151 (by decide) ?_
                      refine ag_goto (tgt := 156) dX2_inspect_152 (by decide) ?_
                      exact hk21 true
                · refine ag_if (fun h25 => ?_) (fun h25 => ?_)
                  · refine ag_tab (off := 161) (tgt := 162) h25 dX2_inspect_1 (by decide) (by decide) (by decide) (by decide) ?_
                    refine ag_goto (tgt := 181) dX2_inspect_162 (by decide) ?_
                    exact ag_vre dX2_inspect_181
                  · refine ag_if (fun h26 => ?_) (fun h26 => ?_)
                    · refine ag_tab (off := 164) (tgt := 165) h26 dX2_inspect_1 (by decide) (by decide) (by decide) (by decide) ?_
                      refine ag_aload_n dX2_inspect_165 rfl ?_
                      refine ag_iconst (v := 0) dX2_inspect_166 (by decide) ?_
                      refine pC_X0_tagged (x := false) ho0 fl_X2_184 dX2_inspect_167 ?_
                      refine ag_ltV (fun V27 => ?_)
                      refine ag_goto (tgt := 181) dX2_inspect_170 (by decide) ?_
                      exact ag_vre dX2_inspect_181
                    · refine ag_tabD (tgt := 173) dX2_inspect_1 (by have z0 := lv_neT h1 (k := 0) (a := 0) (by decide); have z1 := lv_neT h3 (k := 1) (a := 1) (by decide); have z2 := lv_neT h5 (k := 2) (a := 2) (by decide); have z3 := lv_neT h7 (k := 3) (a := 3) (by decide); have z4 := lv_neT h9 (k := 4) (a := 4) (by decide); have z5 := lv_neT h15 (k := 5) (a := 5) (by decide); have z6 := lv_neT h17 (k := 6) (a := 6) (by decide); have z7 := lv_neT h19 (k := 7) (a := 7) (by decide); have z8 := lv_neT h25 (k := 8) (a := 8) (by decide); have z9 := lv_neT h26 (k := 9) (a := 9) (by decide); omega) (by decide) ?_
                      refine ag_aload_n dX2_inspect_173 rfl ?_
                      refine ag_iload_n dX2_inspect_174 rfl ?_
                      refine ag_bipush (v := 9) dX2_inspect_175 (by decide) ?_
                      refine ag_isub dX2_inspect_177 ?_
                      refine ag_ivVe (c_X0_becomeEntry o0 (x1 - 9) ho0 rfl) vwC_D (vwC_at (kpC_0 _ ho0)) rfl cs_X2_236 rfl rfl (Nat.le_of_ble_eq_true rfl) ⟨by decide, by decide⟩ ⟨Nat.zero_le _, Nat.zero_le _⟩ dX2_inspect_178 ?_
                      refine ag_ltV (fun V28 => ?_)
                      exact ag_vre dX2_inspect_181
set_option maxRecDepth 100000 in
set_option maxHeartbeats 4000000 in
theorem c_X2_capability {l : Launch} {D : va_G} {cy : Nat → ClassId} {bs kb : Nat} {V : HV} (o0 : Nat) (o1 : Nat) (x2 : Int32) (ho0 : o0 < 1) (ho1 : o1 < 6) {z : HV} (hz : f_X2_capability kb o0 o1 x2 V = z) : CM l (aG 737 bs) D (tyL cy) (vwC cy bs kb) yX2_capability cX2_capability 5 none 4 87 tvV [.ref (bs + posC 8 o0), .ref (bs + posC 7 o1), .int x2] V ((), z) := by
  refine cm_of vwC_D (by decide +kernel) (own := RX2) rfl (Nat.le_of_ble_eq_true rfl) (L := [some (.ref (bs + posC 8 o0)), some (.ref (bs + posC 7 o1)), some (.int x2), none, none]) rfl hz (fun Γ => ?_)
  unfold f_X2_capability
  refine ag_aload_n dX2_capability_0 rfl ?_
  refine ag_iload_n dX2_capability_1 rfl ?_
  refine ag_isIp (c_X2_aField x2  rfl) vwC_D cs_X2_84 rfl rfl (Nat.le_of_ble_eq_true rfl) ⟨by decide, by decide⟩ ⟨Nat.zero_le _, Nat.zero_le _⟩ dX2_capability_2 ?_
  refine ag_ltI (fun v1 => ?_)
  refine ag_ivRp (c_X9_reg o1 v1 ho1 rfl) vwC_D (vwC_at (kpC_7 _ ho1)) rfl cs_X2_71 rfl rfl (Nat.le_of_ble_eq_true rfl) ⟨by decide, by decide⟩ ⟨Nat.zero_le _, Nat.zero_le _⟩ dX2_capability_5 ?_
  refine ag_astore_n (L' := [some (.ref (bs + posC 8 o0)), some (.ref (bs + posC 7 o1)), some (.int x2), some (.ref (bs + posC 0 (f_X9_reg o1 v1))), none]) dX2_capability_8 (by decide) rfl ?_
  refine ag_aload_n dX2_capability_9 rfl ?_
  refine gC_X10_scratch ho0 fl_X2_193 dX2_capability_10 ?_
  refine ag_astore (L' := [some (.ref (bs + posC 8 o0)), some (.ref (bs + posC 7 o1)), some (.int x2), some (.ref (bs + posC 0 (f_X9_reg o1 v1))), some (.ref (bs + posC 0 582))]) dX2_capability_13 (by decide) rfl ?_
  refine ag_aload dX2_capability_15 rfl ?_
  refine ag_aload_n dX2_capability_17 rfl ?_
  refine ag_ivVe (c_X0_copy 582 (f_X9_reg o1 v1) (by decide) (ok_X9_reg ho1) rfl) vwC_D (vwC_at (kpC_0 _ (by decide))) rfl cs_X2_98 rfl rfl (Nat.le_of_ble_eq_true rfl) ⟨by decide, by decide⟩ ⟨Nat.zero_le _, Nat.zero_le _⟩ dX2_capability_18 ?_
  refine ag_ltV (fun V2 => ?_)
  refine ag_iload_n dX2_capability_21 rfl ?_
  refine ag_isIp (c_X2_f x2  rfl) vwC_D cs_X2_78 rfl rfl (Nat.le_of_ble_eq_true rfl) ⟨by decide, by decide⟩ ⟨Nat.zero_le _, Nat.zero_le _⟩ dX2_capability_22 ?_
  refine ag_ltI (fun v3 => ?_)
  refine ag_jn1 (j := 115) (L1 := fun V4 => [some (.ref (bs + posC 8 o0)), some (.ref (bs + posC 7 o1)), some (.int x2), some (.ref (bs + posC 0 (f_X9_reg o1 v1))), some (.ref (bs + posC 0 582))]) (st1 := fun V4 => []) (ws1 := fun V4 => vwC cy bs kb V4) (fun V4 => ?_) (fun k5 hk6 => ?_)
  · refine ag_aload_n dX2_capability_115 rfl ?_
    refine ag_iload_n dX2_capability_116 rfl ?_
    refine ag_isIp (c_X2_dField x2  rfl) vwC_D cs_X2_9 rfl rfl (Nat.le_of_ble_eq_true rfl) ⟨by decide, by decide⟩ ⟨Nat.zero_le _, Nat.zero_le _⟩ dX2_capability_117 ?_
    refine ag_ltI (fun v7 => ?_)
    refine ag_ivRp (c_X9_reg o1 v7 ho1 rfl) vwC_D (vwC_at (kpC_7 _ ho1)) rfl cs_X2_71 rfl rfl (Nat.le_of_ble_eq_true rfl) ⟨by decide, by decide⟩ ⟨Nat.zero_le _, Nat.zero_le _⟩ dX2_capability_120 ?_
    refine ag_aload dX2_capability_123 rfl ?_
    refine ag_ivVe (c_X0_copy (f_X9_reg o1 v7) 582 (ok_X9_reg ho1) (by decide) rfl) vwC_D (vwC_at (kpC_0 _ (ok_X9_reg ho1))) rfl cs_X2_98 rfl rfl (Nat.le_of_ble_eq_true rfl) ⟨by decide, by decide⟩ ⟨Nat.zero_le _, Nat.zero_le _⟩ dX2_capability_125 ?_
    refine ag_ltV (fun V8 => ?_)
    exact ag_vre dX2_capability_128
  · refine ag_if (fun h9 => ?_) (fun h9 => ?_)
    · refine ag_tab (off := 27) (tgt := 52) h9 dX2_capability_25 (by decide) (by decide) (by decide) (by decide) ?_
      refine ag_aload dX2_capability_52 rfl ?_
      refine ag_aload_n dX2_capability_54 rfl ?_
      refine ag_iload_n dX2_capability_55 rfl ?_
      refine ag_isIp (c_X2_bField x2  rfl) vwC_D cs_X2_87 rfl rfl (Nat.le_of_ble_eq_true rfl) ⟨by decide, by decide⟩ ⟨Nat.zero_le _, Nat.zero_le _⟩ dX2_capability_56 ?_
      refine ag_ltI (fun v10 => ?_)
      refine ag_ivRp (c_X9_reg o1 v10 ho1 rfl) vwC_D (vwC_at (kpC_7 _ ho1)) rfl cs_X2_71 rfl rfl (Nat.le_of_ble_eq_true rfl) ⟨by decide, by decide⟩ ⟨Nat.zero_le _, Nat.zero_le _⟩ dX2_capability_59 ?_
      refine ag_iload_n dX2_capability_62 rfl ?_
      refine ag_isIp (c_X2_g x2  rfl) vwC_D cs_X2_81 rfl rfl (Nat.le_of_ble_eq_true rfl) ⟨by decide, by decide⟩ ⟨Nat.zero_le _, Nat.zero_le _⟩ dX2_capability_63 ?_
      refine ag_ltI (fun v11 => ?_)
      refine ag_isVe (c_X2_derive 582 (f_X9_reg o1 v10) v11 (by decide) (ok_X9_reg ho1) rfl) vwC_D cs_X2_196 rfl rfl (Nat.le_of_ble_eq_true rfl) ⟨by decide, by decide⟩ ⟨Nat.zero_le _, Nat.zero_le _⟩ dX2_capability_66 ?_
      refine ag_ltV (fun V12 => ?_)
      refine ag_goto (tgt := 115) dX2_capability_69 (by decide) ?_
      exact hk6 V12
    · refine ag_if (fun h13 => ?_) (fun h13 => ?_)
      · refine ag_tab (off := 47) (tgt := 72) h13 dX2_capability_25 (by decide) (by decide) (by decide) (by decide) ?_
        refine ag_aload dX2_capability_72 rfl ?_
        refine ag_iload_n dX2_capability_74 rfl ?_
        refine ag_isIp (c_X2_bField x2  rfl) vwC_D cs_X2_87 rfl rfl (Nat.le_of_ble_eq_true rfl) ⟨by decide, by decide⟩ ⟨Nat.zero_le _, Nat.zero_le _⟩ dX2_capability_75 ?_
        refine ag_ltI (fun v14 => ?_)
        refine ag_aload_n dX2_capability_78 rfl ?_
        refine gC_X9_interrupts ho1 fl_X2_132 dX2_capability_79 ?_
        refine ag_isVe (c_X2_inspect 582 v14 (i2b (V2 710 o1 0)) (by decide) rfl) vwC_D cs_X2_200 rfl rfl (Nat.le_of_ble_eq_true rfl) ⟨by decide, by decide⟩ ⟨Nat.zero_le _, Nat.zero_le _⟩ dX2_capability_82 ?_
        refine ag_ltV (fun V15 => ?_)
        refine ag_goto (tgt := 115) dX2_capability_85 (by decide) ?_
        exact hk6 V15
      · refine ag_if (fun h16 => ?_) (fun h16 => ?_)
        · refine ag_tab (off := 63) (tgt := 88) h16 dX2_capability_25 (by decide) (by decide) (by decide) (by decide) ?_
          refine ag_aload dX2_capability_88 rfl ?_
          refine ag_aload_n dX2_capability_90 rfl ?_
          refine gC_X0_cursor (ok_X9_reg ho1) fl_X2_31 dX2_capability_91 ?_
          refine ag_iload_n dX2_capability_94 rfl ?_
          refine ag_isIp (c_X2_immediate x2  rfl) vwC_D cs_X2_143 rfl rfl (Nat.le_of_ble_eq_true rfl) ⟨by decide, by decide⟩ ⟨Nat.zero_le _, Nat.zero_le _⟩ dX2_capability_95 ?_
          refine ag_ltI (fun v17 => ?_)
          refine ag_iadd dX2_capability_98 ?_
          refine ag_ivVe (c_X0_moveTo 582 ((V2 0 (f_X9_reg o1 v1) 0) + v17) (by decide) rfl) vwC_D (vwC_at (kpC_0 _ (by decide))) rfl cs_X2_204 rfl rfl (Nat.le_of_ble_eq_true rfl) ⟨by decide, by decide⟩ ⟨Nat.zero_le _, Nat.zero_le _⟩ dX2_capability_99 ?_
          refine ag_ltV (fun V18 => ?_)
          refine ag_goto (tgt := 115) dX2_capability_102 (by decide) ?_
          exact hk6 V18
        · refine ag_tabD (tgt := 105) dX2_capability_25 (by have z0 := lv_neT h9 (k := 0) (a := 0) (by decide); have z1 := lv_neT h13 (k := 1) (a := 1) (by decide); have z2 := lv_neT h16 (k := 2) (a := 2) (by decide); omega) (by decide) ?_
          refine ag_aload dX2_capability_105 rfl ?_
          refine ag_iload_n dX2_capability_107 rfl ?_
          refine ag_bipush (v := 20) dX2_capability_108 (by decide) ?_
          refine ag_iushr dX2_capability_110 ?_
          refine ag_i2l dX2_capability_111 ?_
          refine ag_ivVe (c_X0_narrow 582 ((((x2).toUInt32 >>> (Int32.toUInt32 (20 : Int32) &&& Int32.toUInt32 31)).toInt32).toInt64) (by decide) rfl) vwC_D (vwC_at (kpC_0 _ (by decide))) rfl cs_X2_207 rfl rfl (Nat.le_of_ble_eq_true rfl) ⟨by decide, by decide⟩ ⟨Nat.zero_le _, Nat.zero_le _⟩ dX2_capability_112 ?_
          refine ag_ltV (fun V19 => ?_)
          exact hk6 V19
set_option maxRecDepth 100000 in
set_option maxHeartbeats 4000000 in
theorem c_X2_execute {l : Launch} {D : va_G} {cy : Nat → ClassId} {bs kb : Nat} {V : HV} (o0 : Nat) (o1 : Nat) (x2 : Int32) (ho0 : o0 < 1) (ho1 : o1 < 6) {z : Int32 × HV} (hz : f_X2_execute kb o0 o1 x2 V = some z) : CM l (aG 737 bs) D (tyL cy) (vwC cy bs kb) yX2_execute cX2_execute 6 (some .int) 5 114 tvI [.ref (bs + posC 8 o0), .ref (bs + posC 7 o1), .int x2] V z := by
  refine cm_of vwC_D (by decide +kernel) (own := RX2) rfl (Nat.le_of_ble_eq_true rfl) (L := [some (.ref (bs + posC 8 o0)), some (.ref (bs + posC 7 o1)), some (.int x2), none, none, none]) rfl hz (fun Γ => ?_)
  unfold f_X2_execute
  refine ag_aload_n dX2_execute_0 rfl ?_
  refine ag_iload_n dX2_execute_1 rfl ?_
  refine ag_isIp (c_X2_dField x2  rfl) vwC_D cs_X2_9 rfl rfl (Nat.le_of_ble_eq_true rfl) ⟨by decide, by decide⟩ ⟨Nat.zero_le _, Nat.zero_le _⟩ dX2_execute_2 ?_
  refine ag_ltI (fun v1 => ?_)
  refine ag_ivRp (c_X9_reg o1 v1 ho1 rfl) vwC_D (vwC_at (kpC_7 _ ho1)) rfl cs_X2_71 rfl rfl (Nat.le_of_ble_eq_true rfl) ⟨by decide, by decide⟩ ⟨Nat.zero_le _, Nat.zero_le _⟩ dX2_execute_5 ?_
  refine ag_astore_n (L' := [some (.ref (bs + posC 8 o0)), some (.ref (bs + posC 7 o1)), some (.int x2), some (.ref (bs + posC 0 (f_X9_reg o1 v1))), none, none]) dX2_execute_8 (by decide) rfl ?_
  refine ag_iconst (v := 0) dX2_execute_9 (by decide) ?_
  refine ag_istore (L' := [some (.ref (bs + posC 8 o0)), some (.ref (bs + posC 7 o1)), some (.int x2), some (.ref (bs + posC 0 (f_X9_reg o1 v1))), some (.int 0), none]) dX2_execute_10 (by decide) rfl ?_
  refine ag_iconst (v := 4) dX2_execute_12 (by decide) ?_
  refine ag_istore (L' := [some (.ref (bs + posC 8 o0)), some (.ref (bs + posC 7 o1)), some (.int x2), some (.ref (bs + posC 0 (f_X9_reg o1 v1))), some (.int 0), some (.int 4)]) dX2_execute_13 (by decide) rfl ?_
  refine ag_iload_n dX2_execute_15 rfl ?_
  refine ag_bipush (v := 127) dX2_execute_16 (by decide) ?_
  refine ag_iand dX2_execute_18 ?_
  refine ag_jn3 (j := 216) (L1 := fun v2 v3 V4 => [some (.ref (bs + posC 8 o0)), some (.ref (bs + posC 7 o1)), some (.int x2), some (.ref (bs + posC 0 (f_X9_reg o1 v1))), some (.int v2), some (.int v3)]) (st1 := fun v2 v3 V4 => []) (ws1 := fun v2 v3 V4 => vwC cy bs kb V4) (fun v2 v3 V4 => ?_) (fun k5 hk6 => ?_)
  · refine ag_iload dX2_execute_216 rfl ?_
    refine ag_if_ne (tgt := 235) dX2_execute_218 (by decide) (fun h7 => ?_) (fun h7 => ?_)
    · refine ag_iload dX2_execute_235 rfl ?_
      exact ag_irep dX2_execute_237
    · refine ag_aload_n dX2_execute_221 rfl ?_
      refine gC_X9_pcc ho1 fl_X2_25 dX2_execute_222 ?_
      refine ag_dup dX2_execute_225 rfl ?_
      refine gC_X0_cursor (by omega) fl_X2_31 dX2_execute_226 ?_
      refine ag_iload dX2_execute_229 rfl ?_
      refine ag_iadd dX2_execute_231 ?_
      refine pC_X0_cursor (by omega) fl_X2_31 dX2_execute_232 ?_
      refine ag_ltV (fun V8 => ?_)
      refine ag_iload dX2_execute_235 rfl ?_
      exact ag_irep dX2_execute_237
  · refine ag_if (fun h9 => ?_) (fun h9 => ?_)
    · refine ag_lk (off := 169) (tgt := 188) dX2_execute_19 (by decide) (by rw [h9]; decide) (by decide) ?_
      refine ag_aload_n dX2_execute_188 rfl ?_
      refine ag_aload_n dX2_execute_189 rfl ?_
      refine ag_iload_n dX2_execute_190 rfl ?_
      refine ag_bnd (fun p10 hp10 => ?_)
      refine ag_isIe (c_X2_load o0 o1 x2 ho0 ho1 hp10) vwC_D cs_X2_123 rfl rfl (Nat.le_of_ble_eq_true rfl) ⟨by decide, by decide⟩ ⟨Nat.zero_le _, Nat.zero_le _⟩ dX2_execute_191 ?_
      refine ag_ltI (fun v11 => ?_)
      refine ag_istore (L' := [some (.ref (bs + posC 8 o0)), some (.ref (bs + posC 7 o1)), some (.int x2), some (.ref (bs + posC 0 (f_X9_reg o1 v1))), some (.int v11), some (.int 4)]) dX2_execute_194 (by decide) rfl ?_
      refine ag_goto (tgt := 216) dX2_execute_196 (by decide) ?_
      exact hk6 v11 4 p10.2
    · refine ag_if (fun h12 => ?_) (fun h12 => ?_)
      · refine ag_lk (off := 145) (tgt := 164) dX2_execute_19 (by decide) (by rw [h12]; decide) (by decide) ?_
        refine ag_aload_n dX2_execute_164 rfl ?_
        refine ag_aload_n dX2_execute_165 rfl ?_
        refine ag_iload_n dX2_execute_166 rfl ?_
        refine ag_isIp (c_X2_withImmediate o1 x2 ho1 rfl) vwC_D cs_X2_116 rfl rfl (Nat.le_of_ble_eq_true rfl) ⟨by decide, by decide⟩ ⟨Nat.zero_le _, Nat.zero_le _⟩ dX2_execute_167 ?_
        refine ag_ltI (fun v13 => ?_)
        refine ag_ivVe (c_X0_number (f_X9_reg o1 v1) v13 (ok_X9_reg ho1) rfl) vwC_D (vwC_at (kpC_0 _ (ok_X9_reg ho1))) rfl cs_X2_94 rfl rfl (Nat.le_of_ble_eq_true rfl) ⟨by decide, by decide⟩ ⟨Nat.zero_le _, Nat.zero_le _⟩ dX2_execute_170 ?_
        refine ag_ltV (fun V14 => ?_)
        refine ag_goto (tgt := 216) dX2_execute_173 (by decide) ?_
        exact hk6 0 4 V14
      · refine ag_if (fun h15 => ?_) (fun h15 => ?_)
        · refine ag_lk (off := 85) (tgt := 104) dX2_execute_19 (by decide) (by rw [h15]; decide) (by decide) ?_
          refine ag_aload_n dX2_execute_104 rfl ?_
          refine ag_aload_n dX2_execute_105 rfl ?_
          refine gC_X9_pcc ho1 fl_X2_25 dX2_execute_106 ?_
          refine ag_ivVe (c_X0_copy (f_X9_reg o1 v1) (17 * o1 + 16) (ok_X9_reg ho1) (by omega) rfl) vwC_D (vwC_at (kpC_0 _ (ok_X9_reg ho1))) rfl cs_X2_98 rfl rfl (Nat.le_of_ble_eq_true rfl) ⟨by decide, by decide⟩ ⟨Nat.zero_le _, Nat.zero_le _⟩ dX2_execute_109 ?_
          refine ag_ltV (fun V16 => ?_)
          refine ag_aload_n dX2_execute_112 rfl ?_
          refine ag_dup dX2_execute_113 rfl ?_
          refine gC_X0_cursor (ok_X9_reg ho1) fl_X2_31 dX2_execute_114 ?_
          refine ag_iload_n dX2_execute_117 rfl ?_
          refine ag_sipush (v := (-4096)) dX2_execute_118 (by decide) ?_
          refine ag_iand dX2_execute_121 ?_
          refine ag_iadd dX2_execute_122 ?_
          refine pC_X0_cursor (ok_X9_reg ho1) fl_X2_31 dX2_execute_123 ?_
          refine ag_ltV (fun V17 => ?_)
          refine ag_goto (tgt := 216) dX2_execute_126 (by decide) ?_
          exact hk6 0 4 V17
        · refine ag_if (fun h18 => ?_) (fun h18 => ?_)
          · refine ag_lk (off := 180) (tgt := 199) dX2_execute_19 (by decide) (by rw [h18]; decide) (by decide) ?_
            refine ag_aload_n dX2_execute_199 rfl ?_
            refine ag_aload_n dX2_execute_200 rfl ?_
            refine ag_iload_n dX2_execute_201 rfl ?_
            refine ag_bnd (fun p19 hp19 => ?_)
            refine ag_isIe (c_X2_write o0 o1 x2 ho0 ho1 hp19) vwC_D cs_X2_125 rfl rfl (Nat.le_of_ble_eq_true rfl) ⟨by decide, by decide⟩ ⟨Nat.zero_le _, Nat.zero_le _⟩ dX2_execute_202 ?_
            refine ag_ltI (fun v20 => ?_)
            refine ag_istore (L' := [some (.ref (bs + posC 8 o0)), some (.ref (bs + posC 7 o1)), some (.int x2), some (.ref (bs + posC 0 (f_X9_reg o1 v1))), some (.int v20), some (.int 4)]) dX2_execute_205 (by decide) rfl ?_
            refine ag_goto (tgt := 216) dX2_execute_207 (by decide) ?_
            exact hk6 v20 4 p19.2
          · refine ag_if (fun h21 => ?_) (fun h21 => ?_)
            · refine ag_lk (off := 157) (tgt := 176) dX2_execute_19 (by decide) (by rw [h21]; decide) (by decide) ?_
              refine ag_aload_n dX2_execute_176 rfl ?_
              refine ag_aload_n dX2_execute_177 rfl ?_
              refine ag_iload_n dX2_execute_178 rfl ?_
              refine ag_bnd (fun p22 hp22 => ?_)
              refine ag_isIp (c_X2_withRegisters o1 x2 ho1 hp22) vwC_D cs_X2_120 rfl rfl (Nat.le_of_ble_eq_true rfl) ⟨by decide, by decide⟩ ⟨Nat.zero_le _, Nat.zero_le _⟩ dX2_execute_179 ?_
              refine ag_ivVe (c_X0_number (f_X9_reg o1 v1) p22 (ok_X9_reg ho1) rfl) vwC_D (vwC_at (kpC_0 _ (ok_X9_reg ho1))) rfl cs_X2_94 rfl rfl (Nat.le_of_ble_eq_true rfl) ⟨by decide, by decide⟩ ⟨Nat.zero_le _, Nat.zero_le _⟩ dX2_execute_182 ?_
              refine ag_ltV (fun V23 => ?_)
              refine ag_goto (tgt := 216) dX2_execute_185 (by decide) ?_
              exact hk6 0 4 V23
            · refine ag_if (fun h24 => ?_) (fun h24 => ?_)
              · refine ag_lk (off := 73) (tgt := 92) dX2_execute_19 (by decide) (by rw [h24]; decide) (by decide) ?_
                refine ag_aload_n dX2_execute_92 rfl ?_
                refine ag_iload_n dX2_execute_93 rfl ?_
                refine ag_sipush (v := (-4096)) dX2_execute_94 (by decide) ?_
                refine ag_iand dX2_execute_97 ?_
                refine ag_ivVe (c_X0_number (f_X9_reg o1 v1) (x2 &&& (-4096)) (ok_X9_reg ho1) rfl) vwC_D (vwC_at (kpC_0 _ (ok_X9_reg ho1))) rfl cs_X2_94 rfl rfl (Nat.le_of_ble_eq_true rfl) ⟨by decide, by decide⟩ ⟨Nat.zero_le _, Nat.zero_le _⟩ dX2_execute_98 ?_
                refine ag_ltV (fun V25 => ?_)
                refine ag_goto (tgt := 216) dX2_execute_101 (by decide) ?_
                exact hk6 0 4 V25
              · refine ag_if (fun h26 => ?_) (fun h26 => ?_)
                · refine ag_lk (off := 124) (tgt := 143) dX2_execute_19 (by decide) (by rw [h26]; decide) (by decide) ?_
                  refine ag_aload_n dX2_execute_143 rfl ?_
                  refine ag_iload_n dX2_execute_144 rfl ?_
                  refine ag_isZp (c_X2_branches o1 x2 ho1 rfl) vwC_D cs_X2_109 rfl rfl (Nat.le_of_ble_eq_true rfl) ⟨by decide, by decide⟩ ⟨Nat.zero_le _, Nat.zero_le _⟩ dX2_execute_145 ?_
                  refine ag_ltZ (fun v27 => ?_)
                  refine ag_dv (j := 159) (L1 := fun _ => [some (.ref (bs + posC 8 o0)), some (.ref (bs + posC 7 o1)), some (.int x2), some (.ref (bs + posC 0 (f_X9_reg o1 v1))), some (.int 0), some (.int 4)]) (st1 := fun v28 => [.int v28]) (ws1 := fun _ => vwC cy bs kb V) (fun v28 => ?_) (fun k30 hk29 => ?_)
                  · refine ag_istore (L' := [some (.ref (bs + posC 8 o0)), some (.ref (bs + posC 7 o1)), some (.int x2), some (.ref (bs + posC 0 (f_X9_reg o1 v1))), some (.int 0), some (.int v28)]) dX2_execute_159 (by decide) rfl ?_
                    refine ag_goto (tgt := 216) dX2_execute_161 (by decide) ?_
                    exact hk6 0 v28 V
                  · refine ag_bif_eq_v (tgt := 158) dX2_execute_148 (by decide) (fun h31 => ?_) (fun h31 => ?_)
                    · refine ag_iconst (v := 4) dX2_execute_158 (by decide) ?_
                      exact hk29 4
                    · refine ag_iload_n dX2_execute_151 rfl ?_
                      refine ag_isIp (c_X2_branchOffset x2  rfl) vwC_D cs_X2_113 rfl rfl (Nat.le_of_ble_eq_true rfl) ⟨by decide, by decide⟩ ⟨Nat.zero_le _, Nat.zero_le _⟩ dX2_execute_152 ?_
                      refine ag_goto (tgt := 159) dX2_execute_155 (by decide) ?_
                      exact hk29 (f_X2_branchOffset x2)
                · refine ag_if (fun h32 => ?_) (fun h32 => ?_)
                  · refine ag_lk (off := 110) (tgt := 129) dX2_execute_19 (by decide) (by rw [h32]; decide) (by decide) ?_
                    refine ag_aload_n dX2_execute_129 rfl ?_
                    refine ag_aload_n dX2_execute_130 rfl ?_
                    refine ag_isVe (c_X2_link o1 (f_X9_reg o1 v1) ho1 (ok_X9_reg ho1) rfl) vwC_D cs_X2_102 rfl rfl (Nat.le_of_ble_eq_true rfl) ⟨by decide, by decide⟩ ⟨Nat.zero_le _, Nat.zero_le _⟩ dX2_execute_131 ?_
                    refine ag_ltV (fun V33 => ?_)
                    refine ag_iload_n dX2_execute_134 rfl ?_
                    refine ag_isIp (c_X2_jumpOffset x2  rfl) vwC_D cs_X2_106 rfl rfl (Nat.le_of_ble_eq_true rfl) ⟨by decide, by decide⟩ ⟨Nat.zero_le _, Nat.zero_le _⟩ dX2_execute_135 ?_
                    refine ag_ltI (fun v34 => ?_)
                    refine ag_istore (L' := [some (.ref (bs + posC 8 o0)), some (.ref (bs + posC 7 o1)), some (.int x2), some (.ref (bs + posC 0 (f_X9_reg o1 v1))), some (.int 0), some (.int v34)]) dX2_execute_138 (by decide) rfl ?_
                    refine ag_goto (tgt := 216) dX2_execute_140 (by decide) ?_
                    exact hk6 0 v34 V33
                  · refine ag_lk (off := 191) (tgt := 210) dX2_execute_19 (by decide) (by show Op.lookupswitch.offset [(3, 169), (19, 145), (23, 85), (35, 180), (51, 157), (55, 73), (99, 124), (111, 110)] 191 _ = _; rw [lv_osw h9 (k := 3) (by decide), lv_osw h12 (k := 19) (by decide), lv_osw h15 (k := 23) (by decide), lv_osw h18 (k := 35) (by decide), lv_osw h21 (k := 51) (by decide), lv_osw h24 (k := 55) (by decide), lv_osw h26 (k := 99) (by decide), lv_osw h32 (k := 111) (by decide)]; rfl) (by decide) ?_
                    refine ag_aload_n dX2_execute_210 rfl ?_
                    refine ag_aload_n dX2_execute_211 rfl ?_
                    refine ag_iload_n dX2_execute_212 rfl ?_
                    refine ag_isVe (c_X2_capability o0 o1 x2 ho0 ho1 rfl) vwC_D cs_X2_128 rfl rfl (Nat.le_of_ble_eq_true rfl) ⟨by decide, by decide⟩ ⟨Nat.zero_le _, Nat.zero_le _⟩ dX2_execute_213 ?_
                    refine ag_ltV (fun V35 => ?_)
                    exact hk6 0 4 V35
set_option maxRecDepth 100000 in
set_option maxHeartbeats 4000000 in
theorem c_X9_fail {l : Launch} {D : va_G} {cy : Nat → ClassId} {bs kb : Nat} {V : HV} (o0 : Nat) (o1 : Nat) (x2 : Int32) (ho0 : o0 < 6) (ho1 : o1 < 1) {z : HV} (hz : f_X9_fail kb o0 o1 x2 V = some z) : CM l (aG 737 bs) D (tyL cy) (vwC cy bs kb) yX9_fail cX9_fail 3 none 5 112 tvV [.ref (bs + posC 7 o0), .ref (bs + posC 6 o1), .int x2] V ((), z) := by
  refine cm_of vwC_D (by decide +kernel) (own := RX9) rfl (Nat.le_of_ble_eq_true rfl) (L := [some (.ref (bs + posC 7 o0)), some (.ref (bs + posC 6 o1)), some (.int x2)]) rfl hz (fun Γ => ?_)
  unfold f_X9_fail
  refine ag_aload_n dX9_fail_0 rfl ?_
  refine ag_iload_n dX9_fail_1 rfl ?_
  refine pC_X9_latestFault ho0 fl_X9_67 dX9_fail_2 ?_
  refine ag_ltV (fun V1 => ?_)
  refine ag_aload_n dX9_fail_5 rfl ?_
  refine ag_aload_n dX9_fail_6 rfl ?_
  refine ag_bnd (fun p2 hp2 => ?_)
  refine ag_ivVe (c_X9_giveBack o0 o1 ho0 ho1 hp2) vwC_D (vwC_at (kpC_7 _ ho0)) rfl cs_X9_171 rfl rfl (Nat.le_of_ble_eq_true rfl) ⟨by decide, by decide⟩ ⟨Nat.zero_le _, Nat.zero_le _⟩ dX9_fail_7 ?_
  refine ag_aload_n dX9_fail_10 rfl ?_
  refine gC_X9_state ho0 fl_X9_52 dX9_fail_11 ?_
  refine ag_iconst (v := 3) dX9_fail_14 (by decide) ?_
  refine ag_icmp_eq (tgt := 38) dX9_fail_15 (by decide) (fun h3 => ?_) (fun h3 => ?_)
  · exact ag_vrep dX9_fail_38
  · refine ag_aload_n dX9_fail_18 rfl ?_
    refine ag_bipush (v := 10) dX9_fail_19 (by decide) ?_
    refine ag_ivRp (c_X9_reg o0 10 ho0 rfl) vwC_D (vwC_at (kpC_7 _ ho0)) rfl cs_X9_82 rfl rfl (Nat.le_of_ble_eq_true rfl) ⟨by decide, by decide⟩ ⟨Nat.zero_le _, Nat.zero_le _⟩ dX9_fail_21 ?_
    refine ag_iconst (v := (-1)) dX9_fail_24 (by decide) ?_
    refine ag_ivVe (c_X0_number (f_X9_reg o0 10) (-1) (ok_X9_reg ho0) rfl) vwC_D (vwC_at (kpC_0 _ (ok_X9_reg ho0))) rfl cs_X9_174 rfl rfl (Nat.le_of_ble_eq_true rfl) ⟨by decide, by decide⟩ ⟨Nat.zero_le _, Nat.zero_le _⟩ dX9_fail_25 ?_
    refine ag_ltV (fun V4 => ?_)
    refine ag_aload_n dX9_fail_28 rfl ?_
    refine ag_bipush (v := 11) dX9_fail_29 (by decide) ?_
    refine ag_ivRp (c_X9_reg o0 11 ho0 rfl) vwC_D (vwC_at (kpC_7 _ ho0)) rfl cs_X9_82 rfl rfl (Nat.le_of_ble_eq_true rfl) ⟨by decide, by decide⟩ ⟨Nat.zero_le _, Nat.zero_le _⟩ dX9_fail_31 ?_
    refine ag_iload_n dX9_fail_34 rfl ?_
    refine ag_ivVe (c_X0_number (f_X9_reg o0 11) x2 (ok_X9_reg ho0) rfl) vwC_D (vwC_at (kpC_0 _ (ok_X9_reg ho0))) rfl cs_X9_174 rfl rfl (Nat.le_of_ble_eq_true rfl) ⟨by decide, by decide⟩ ⟨Nat.zero_le _, Nat.zero_le _⟩ dX9_fail_35 ?_
    refine ag_ltV (fun V5 => ?_)
    exact ag_vrep dX9_fail_38
set_option maxRecDepth 100000 in
set_option maxHeartbeats 4000000 in
theorem c_X2_instruction {l : Launch} {D : va_G} {cy : Nat → ClassId} {bs kb : Nat} {V : HV} (o0 : Nat) (ho0 : o0 < 1) {z : HV} (hz : f_X2_instruction kb o0 V = some z) : CM l (aG 737 bs) D (tyL cy) (vwC cy bs kb) yX2_instruction cX2_instruction 4 none 6 144 tvV [.ref (bs + posC 8 o0)] V ((), z) := by
  refine cm_of vwC_D (by decide +kernel) (own := RX2) rfl (Nat.le_of_ble_eq_true rfl) (L := [some (.ref (bs + posC 8 o0)), none, none, none]) rfl hz (fun Γ => ?_)
  unfold f_X2_instruction
  refine ag_aload_n dX2_instruction_0 rfl ?_
  refine ag_aload_n dX2_instruction_1 rfl ?_
  refine gC_X10_current ho0 fl_X2_15 dX2_instruction_2 ?_
  refine ag_bnd (fun p1 hp1 => ?_)
  refine ag_ivOp (c_X10_taskAt o0 (V 811 o0 0) ho0 hp1) vwC_D (vwC_at (kpC_8 _ ho0)) rfl cs_X2_21 rfl rfl (Nat.le_of_ble_eq_true rfl) ⟨by decide, by decide⟩ ⟨Nat.zero_le _, Nat.zero_le _⟩ dX2_instruction_5 ?_
  refine ag_ostore_n (L' := [some (.ref (bs + posC 8 o0)), some (va_rf (p1.map (fun x => bs + posC 7 x))), none, none]) dX2_instruction_8 (by decide) rfl ?_
  refine ag_oload_n dX2_instruction_9 rfl ?_
  refine ag_ifnonnull (tgt := 14) dX2_instruction_10 (by decide) (fun a2 eh3 => ?_) (fun eh3 => ?_)
  · subst eh3
    refine ag_chk (fun h3 => ?_)
    refine ag_Lc (L' := [some (.ref (bs + posC 8 o0)), some (.ref (bs + posC 7 a2)), none, none]) rfl ?_
    refine ag_aload_n dX2_instruction_14 rfl ?_
    refine gC_X9_pcc h3 fl_X2_25 dX2_instruction_15 ?_
    refine ag_iconst (v := 4) dX2_instruction_18 (by decide) ?_
    refine ag_aload_n dX2_instruction_19 rfl ?_
    refine gC_X9_pcc h3 fl_X2_25 dX2_instruction_20 ?_
    refine gC_X0_cursor (by omega) fl_X2_31 dX2_instruction_23 ?_
    refine ag_iconst (v := 4) dX2_instruction_26 (by decide) ?_
    refine ag_ivIp (c_X0_faultFor (17 * a2 + 16) 4 (V 0 (17 * a2 + 16) 0) 4 (by omega) rfl) vwC_D (vwC_at (kpC_0 _ (by omega))) rfl cs_X2_36 rfl rfl (Nat.le_of_ble_eq_true rfl) ⟨by decide, by decide⟩ ⟨Nat.zero_le _, Nat.zero_le _⟩ dX2_instruction_27 ?_
    refine ag_ltI (fun v4 => ?_)
    refine ag_istore_n (L' := [some (.ref (bs + posC 8 o0)), some (.ref (bs + posC 7 a2)), some (.int v4), none]) dX2_instruction_30 (by decide) rfl ?_
    refine ag_iload_n dX2_instruction_31 rfl ?_
    refine ag_jn2 (j := 90) (L1 := fun v5 V6 => [some (.ref (bs + posC 8 o0)), some (.ref (bs + posC 7 a2)), some (.int v5), none]) (st1 := fun v5 V6 => []) (ws1 := fun v5 V6 => vwC cy bs kb V6) (fun v5 V6 => ?_) (fun k7 hk8 => ?_)
    · refine ag_iload_n dX2_instruction_90 rfl ?_
      refine ag_jn1 (j := 126) (L1 := fun V9 => [some (.ref (bs + posC 8 o0)), some (.ref (bs + posC 7 a2)), some (.int v5), none]) (st1 := fun V9 => []) (ws1 := fun V9 => vwC cy bs kb V9) (fun V9 => ?_) (fun k10 hk11 => ?_)
      · refine ag_aload_n dX2_instruction_126 rfl ?_
        refine ag_iconst (v := 0) dX2_instruction_127 (by decide) ?_
        refine ag_ivRp (c_X9_reg a2 0 h3 rfl) vwC_D (vwC_at (kpC_7 _ h3)) rfl cs_X2_71 rfl rfl (Nat.le_of_ble_eq_true rfl) ⟨by decide, by decide⟩ ⟨Nat.zero_le _, Nat.zero_le _⟩ dX2_instruction_128 ?_
        refine ag_ivVe (c_X0_clear (f_X9_reg a2 0) (ok_X9_reg h3) rfl) vwC_D (vwC_at (kpC_0 _ (ok_X9_reg h3))) rfl cs_X2_75 rfl rfl (Nat.le_of_ble_eq_true rfl) ⟨by decide, by decide⟩ ⟨Nat.zero_le _, Nat.zero_le _⟩ dX2_instruction_131 ?_
        refine ag_ltV (fun V12 => ?_)
        exact ag_vrep dX2_instruction_134
      · refine ag_if_ne (tgt := 107) dX2_instruction_91 (by decide) (fun h13 => ?_) (fun h13 => ?_)
        · refine ag_aload_n dX2_instruction_107 rfl ?_
          refine ag_dup dX2_instruction_108 rfl ?_
          refine gC_X10_faults ho0 fl_X2_64 dX2_instruction_109 ?_
          refine ag_iconst (v := 1) dX2_instruction_112 (by decide) ?_
          refine ag_iadd dX2_instruction_113 ?_
          refine pC_X10_faults ho0 fl_X2_64 dX2_instruction_114 ?_
          refine ag_ltV (fun V14 => ?_)
          refine ag_aload_n dX2_instruction_117 rfl ?_
          refine ag_aload_n dX2_instruction_118 rfl ?_
          refine gC_X10_store ho0 fl_X2_40 dX2_instruction_119 ?_
          refine ag_iload_n dX2_instruction_122 rfl ?_
          refine ag_bnd (fun p15 hp15 => ?_)
          refine ag_ivVe (c_X9_fail a2 0 v5 h3 (by decide) hp15) vwC_D (vwC_at (kpC_7 _ h3)) rfl cs_X2_67 rfl rfl (Nat.le_of_ble_eq_true rfl) ⟨by decide, by decide⟩ ⟨Nat.zero_le _, Nat.zero_le _⟩ dX2_instruction_123 ?_
          exact hk11 p15
        · refine ag_aload_n dX2_instruction_94 rfl ?_
          refine ag_dup dX2_instruction_95 rfl ?_
          refine gC_X9_done h3 fl_X2_61 dX2_instruction_96 ?_
          refine ag_iconst (v := 1) dX2_instruction_99 (by decide) ?_
          refine ag_iadd dX2_instruction_100 ?_
          refine pC_X9_done h3 fl_X2_61 dX2_instruction_101 ?_
          refine ag_ltV (fun V16 => ?_)
          refine ag_goto (tgt := 126) dX2_instruction_104 (by decide) ?_
          exact hk11 V16
    · refine ag_if_ne (tgt := 90) dX2_instruction_32 (by decide) (fun h17 => ?_) (fun h17 => ?_)
      · exact hk8 v4 V
      · refine ag_aload_n dX2_instruction_35 rfl ?_
        refine gC_X10_store ho0 fl_X2_40 dX2_instruction_36 ?_
        refine ag_aload_n dX2_instruction_39 rfl ?_
        refine gC_X9_pcc h3 fl_X2_25 dX2_instruction_40 ?_
        refine gC_X0_cursor (by omega) fl_X2_31 dX2_instruction_43 ?_
        refine ag_iconst (v := 4) dX2_instruction_46 (by decide) ?_
        refine ag_bnd (fun p18 hp18 => ?_)
        refine ag_ivIp (c_X8_load 0 (V 0 (17 * a2 + 16) 0) 4 (by decide) hp18) vwC_D (vwC_at (kpC_6 _ (by decide))) rfl cs_X2_44 rfl rfl (Nat.le_of_ble_eq_true rfl) ⟨by decide, by decide⟩ ⟨Nat.zero_le _, Nat.zero_le _⟩ dX2_instruction_47 ?_
        refine ag_istore_n (L' := [some (.ref (bs + posC 8 o0)), some (.ref (bs + posC 7 a2)), some (.int v4), some (.int p18)]) dX2_instruction_50 (by decide) rfl ?_
        refine ag_iload_n dX2_instruction_51 rfl ?_
        refine ag_isZp (c_X2_isLegal p18  rfl) vwC_D cs_X2_50 rfl rfl (Nat.le_of_ble_eq_true rfl) ⟨by decide, by decide⟩ ⟨Nat.zero_le _, Nat.zero_le _⟩ dX2_instruction_52 ?_
        refine ag_ltZ (fun v19 => ?_)
        refine ag_bif_ne (tgt := 64) dX2_instruction_55 (by decide) (fun h20 => ?_) (fun h20 => ?_)
        · refine ag_iload_n dX2_instruction_64 rfl ?_
          refine ag_bipush (v := 127) dX2_instruction_65 (by decide) ?_
          refine ag_iand dX2_instruction_67 ?_
          refine ag_bipush (v := 103) dX2_instruction_68 (by decide) ?_
          refine ag_icmp_ne (tgt := 83) dX2_instruction_70 (by decide) (fun h21 => ?_) (fun h21 => ?_)
          · refine ag_aload_n dX2_instruction_83 rfl ?_
            refine ag_aload_n dX2_instruction_84 rfl ?_
            refine ag_iload_n dX2_instruction_85 rfl ?_
            refine ag_bnd (fun p22 hp22 => ?_)
            refine ag_isIe (c_X2_execute o0 a2 p18 ho0 h3 hp22) vwC_D cs_X2_58 rfl rfl (Nat.le_of_ble_eq_true rfl) ⟨by decide, by decide⟩ ⟨Nat.zero_le _, Nat.zero_le _⟩ dX2_instruction_86 ?_
            refine ag_ltI (fun v23 => ?_)
            refine ag_istore_n (L' := [some (.ref (bs + posC 8 o0)), some (.ref (bs + posC 7 a2)), some (.int v23), some (.int p18)]) dX2_instruction_89 (by decide) rfl ?_
            refine ag_drop [3] (L' := [some (.ref (bs + posC 8 o0)), some (.ref (bs + posC 7 a2)), some (.int v23), none]) rfl ?_
            exact hk8 v23 p22.2
          · refine ag_aload_n dX2_instruction_73 rfl ?_
            refine ag_aload_n dX2_instruction_74 rfl ?_
            refine ag_iload_n dX2_instruction_75 rfl ?_
            refine ag_bnd (fun p24 hp24 => ?_)
            refine ag_isIe (c_X2_jumpTo o0 a2 p18 ho0 h3 hp24) vwC_D cs_X2_54 rfl rfl (Nat.le_of_ble_eq_true rfl) ⟨by decide, by decide⟩ ⟨Nat.zero_le _, Nat.zero_le _⟩ dX2_instruction_76 ?_
            refine ag_ltI (fun v25 => ?_)
            refine ag_istore_n (L' := [some (.ref (bs + posC 8 o0)), some (.ref (bs + posC 7 a2)), some (.int v25), some (.int p18)]) dX2_instruction_79 (by decide) rfl ?_
            refine ag_goto (tgt := 90) dX2_instruction_80 (by decide) ?_
            refine ag_drop [3] (L' := [some (.ref (bs + posC 8 o0)), some (.ref (bs + posC 7 a2)), some (.int v25), none]) rfl ?_
            exact hk8 v25 p24.2
        · refine ag_bipush (v := 6) dX2_instruction_58 (by decide) ?_
          refine ag_istore_n (L' := [some (.ref (bs + posC 8 o0)), some (.ref (bs + posC 7 a2)), some (.int 6), some (.int p18)]) dX2_instruction_60 (by decide) rfl ?_
          refine ag_goto (tgt := 90) dX2_instruction_61 (by decide) ?_
          refine ag_drop [3] (L' := [some (.ref (bs + posC 8 o0)), some (.ref (bs + posC 7 a2)), some (.int 6), none]) rfl ?_
          exact hk8 6 V
  · subst eh3
    refine ag_Lc (L' := [some (.ref (bs + posC 8 o0)), some (.null), none, none]) rfl ?_
    exact ag_vrep dX2_instruction_13
set_option maxRecDepth 100000 in
set_option maxHeartbeats 4000000 in
theorem c_J7_fill_53178_25 {l : Launch} {D : va_G} {cy : Nat → ClassId} {bs kb : Nat} {V : HV} (o0 : Nat) (x1 : Int32) (ho0 : o0 < 1) {z : HV} (hz : f_J7_fill_53178_25 kb o0 x1 V = some z) : CM l (aG 737 bs) D (tyL cy) (vwC cy bs kb) yJ7_fill_53178 cJ7_fill_53178 4 none 0 0 tvV [.ref (bs + posC 25 o0), .int x1] V ((), z) := by
  refine cm_of vwC_D (by decide +kernel) (own := RJ7) rfl (Nat.le_of_ble_eq_true rfl) (L := [some (.ref (bs + posC 25 o0)), some (.int x1), none, none]) rfl hz (fun Γ => ?_)
  unfold f_J7_fill_53178_25
  refine ag_iconst (v := 0) dJ7_fill_53178_0 (by decide) ?_
  refine ag_istore_n (L' := [some (.ref (bs + posC 25 o0)), some (.int x1), some (.int 0), none]) dJ7_fill_53178_1 (by decide) rfl ?_
  refine ag_aload_n dJ7_fill_53178_2 rfl ?_
  refine nC_25 ho0 dJ7_fill_53178_3 ?_
  refine ag_ltI (fun v1 => ?_)
  refine ag_istore_n (L' := [some (.ref (bs + posC 25 o0)), some (.int x1), some (.int 0), some (.int v1)]) dJ7_fill_53178_4 (by decide) rfl ?_
  refine ag_jn1 (j := 20) (L1 := fun V4 => [some (.ref (bs + posC 25 o0)), some (.int x1), none, some (.int v1)]) (st1 := fun V4 => []) (ws1 := fun V4 => vwC cy bs kb V4) (fun V4 => ?_) (fun k2 hk3 => ?_)
  · exact ag_vrep dJ7_fill_53178_20
  · refine ag_loop2 (F := f_J7_fill_53178_25_L5 o0 x1 kb v1 k2) (L1 := fun v5 V6 => [some (.ref (bs + posC 25 o0)), some (.int x1), some (.int v5), some (.int v1)]) (st1 := fun v5 V6 => []) (ws1 := fun v5 V6 => vwC cy bs kb V6) (fun n7 ih8 v5 V6 => ?_) (fun _ _ => rfl) FU 0 V
    rw [f_J7_fill_53178_25_L5]
    refine ag_iload_n dJ7_fill_53178_5 rfl ?_
    refine ag_iload_n dJ7_fill_53178_6 rfl ?_
    refine ag_icmp_ge (tgt := 20) dJ7_fill_53178_7 (by decide) (fun h9 => ?_) (fun h9 => ?_)
    · refine ag_drop [2] (L' := [some (.ref (bs + posC 25 o0)), some (.int x1), none, some (.int v1)]) rfl ?_
      exact hk3 V6
    · refine ag_aload_n dJ7_fill_53178_10 rfl ?_
      refine ag_iload_n dJ7_fill_53178_11 rfl ?_
      refine ag_iload_n dJ7_fill_53178_12 rfl ?_
      refine ag_chk (fun h10 => ?_)
      refine sC_25 ho0 h10 dJ7_fill_53178_13 ?_
      refine ag_ltV (fun V11 => ?_)
      refine ag_iincL (L' := fun v12 => [some (.ref (bs + posC 25 o0)), some (.int x1), some (.int v12), some (.int v1)]) dJ7_fill_53178_14 (by decide) rfl (by decide) (fun _ => rfl) (fun v12 => ?_)
      refine ag_goto (tgt := 5) dJ7_fill_53178_17 (by decide) ?_
      exact ih8 v12 V11
set_option maxRecDepth 100000 in
set_option maxHeartbeats 4000000 in
theorem c_J7_fill_53178_26 {l : Launch} {D : va_G} {cy : Nat → ClassId} {bs kb : Nat} {V : HV} (o0 : Nat) (x1 : Int32) (ho0 : o0 < 1) {z : HV} (hz : f_J7_fill_53178_26 kb o0 x1 V = some z) : CM l (aG 737 bs) D (tyL cy) (vwC cy bs kb) yJ7_fill_53178 cJ7_fill_53178 4 none 0 0 tvV [.ref (bs + posC 26 o0), .int x1] V ((), z) := by
  refine cm_of vwC_D (by decide +kernel) (own := RJ7) rfl (Nat.le_of_ble_eq_true rfl) (L := [some (.ref (bs + posC 26 o0)), some (.int x1), none, none]) rfl hz (fun Γ => ?_)
  unfold f_J7_fill_53178_26
  refine ag_iconst (v := 0) dJ7_fill_53178_0 (by decide) ?_
  refine ag_istore_n (L' := [some (.ref (bs + posC 26 o0)), some (.int x1), some (.int 0), none]) dJ7_fill_53178_1 (by decide) rfl ?_
  refine ag_aload_n dJ7_fill_53178_2 rfl ?_
  refine nC_26 ho0 dJ7_fill_53178_3 ?_
  refine ag_ltI (fun v1 => ?_)
  refine ag_istore_n (L' := [some (.ref (bs + posC 26 o0)), some (.int x1), some (.int 0), some (.int v1)]) dJ7_fill_53178_4 (by decide) rfl ?_
  refine ag_jn1 (j := 20) (L1 := fun V4 => [some (.ref (bs + posC 26 o0)), some (.int x1), none, some (.int v1)]) (st1 := fun V4 => []) (ws1 := fun V4 => vwC cy bs kb V4) (fun V4 => ?_) (fun k2 hk3 => ?_)
  · exact ag_vrep dJ7_fill_53178_20
  · refine ag_loop2 (F := f_J7_fill_53178_26_L5 o0 x1 kb v1 k2) (L1 := fun v5 V6 => [some (.ref (bs + posC 26 o0)), some (.int x1), some (.int v5), some (.int v1)]) (st1 := fun v5 V6 => []) (ws1 := fun v5 V6 => vwC cy bs kb V6) (fun n7 ih8 v5 V6 => ?_) (fun _ _ => rfl) FU 0 V
    rw [f_J7_fill_53178_26_L5]
    refine ag_iload_n dJ7_fill_53178_5 rfl ?_
    refine ag_iload_n dJ7_fill_53178_6 rfl ?_
    refine ag_icmp_ge (tgt := 20) dJ7_fill_53178_7 (by decide) (fun h9 => ?_) (fun h9 => ?_)
    · refine ag_drop [2] (L' := [some (.ref (bs + posC 26 o0)), some (.int x1), none, some (.int v1)]) rfl ?_
      exact hk3 V6
    · refine ag_aload_n dJ7_fill_53178_10 rfl ?_
      refine ag_iload_n dJ7_fill_53178_11 rfl ?_
      refine ag_iload_n dJ7_fill_53178_12 rfl ?_
      refine ag_chk (fun h10 => ?_)
      refine sC_26 ho0 h10 dJ7_fill_53178_13 ?_
      refine ag_ltV (fun V11 => ?_)
      refine ag_iincL (L' := fun v12 => [some (.ref (bs + posC 26 o0)), some (.int x1), some (.int v12), some (.int v1)]) dJ7_fill_53178_14 (by decide) rfl (by decide) (fun _ => rfl) (fun v12 => ?_)
      refine ag_goto (tgt := 5) dJ7_fill_53178_17 (by decide) ?_
      exact ih8 v12 V11
set_option maxRecDepth 100000 in
set_option maxHeartbeats 4000000 in
theorem c_J9_max_7cf53 {l : Launch} {D : va_G} {cy : Nat → ClassId} {bs kb : Nat} {V : HV} (x0 : Int32) (x1 : Int32) {z : Int32} (hz : f_J9_max_7cf53 x0 x1 = z) : CM l (aG 737 bs) D (tyL cy) (vwC cy bs kb) yJ9_max_7cf53 cJ9_max_7cf53 2 (some .int) 0 0 tvI [.int x0, .int x1] V (z, V) := by
  refine cm_of vwC_D (by decide +kernel) (own := RJ9) rfl (Nat.le_of_ble_eq_true rfl) (L := [some (.int x0), some (.int x1)]) rfl hz (fun Γ => ?_)
  unfold f_J9_max_7cf53
  refine ag_iload_n dJ9_max_7cf53_0 rfl ?_
  refine ag_iload_n dJ9_max_7cf53_1 rfl ?_
  refine ag_dv (j := 10) (L1 := fun _ => [some (.int x0), some (.int x1)]) (st1 := fun v1 => [.int v1]) (ws1 := fun _ => vwC cy bs kb V) (fun v1 => ?_) (fun k3 hk2 => ?_)
  · exact ag_irp dJ9_max_7cf53_10
  · refine ag_icmp_lt_v (tgt := 9) dJ9_max_7cf53_2 (by decide) (fun h4 => ?_) (fun h4 => ?_)
    · refine ag_iload_n dJ9_max_7cf53_9 rfl ?_
      exact hk2 x1
    · refine ag_iload_n dJ9_max_7cf53_5 rfl ?_
      refine ag_goto (tgt := 10) dJ9_max_7cf53_6 (by decide) ?_
      exact hk2 x0
set_option maxRecDepth 100000 in
set_option maxHeartbeats 4000000 in
theorem c_X4_reset {l : Launch} {D : va_G} {cy : Nat → ClassId} {bs kb : Nat} {V : HV} (o0 : Nat) (x1 : Int32) (ho0 : o0 < 1) {z : HV} (hz : f_X4_reset kb o0 x1 V = some z) : CM l (aG 737 bs) D (tyL cy) (vwC cy bs kb) yX4_reset cX4_reset 2 none 1 23 tvV [.ref (bs + posC 3 o0), .int x1] V ((), z) := by
  refine cm_of vwC_D (by decide +kernel) (own := RX4) rfl (Nat.le_of_ble_eq_true rfl) (L := [some (.ref (bs + posC 3 o0)), some (.int x1)]) rfl hz (fun Γ => ?_)
  unfold f_X4_reset
  refine ag_aload_n dX4_reset_0 rfl ?_
  refine gC_X4_sizes ho0 fl_X4_15 dX4_reset_1 ?_
  refine ag_iconst (v := 0) dX4_reset_4 (by decide) ?_
  refine ag_bnd (fun p1 hp1 => ?_)
  refine ag_isVe (c_J7_fill_53178_25 0 0 (by decide) hp1) vwC_D cs_X4_22 rfl rfl (Nat.le_of_ble_eq_true rfl) ⟨by decide, by decide⟩ ⟨Nat.zero_le _, Nat.zero_le _⟩ dX4_reset_5 ?_
  refine ag_aload_n dX4_reset_8 rfl ?_
  refine gC_X4_uses ho0 fl_X4_19 dX4_reset_9 ?_
  refine ag_iconst (v := 0) dX4_reset_12 (by decide) ?_
  refine ag_bnd (fun p2 hp2 => ?_)
  refine ag_isVe (c_J7_fill_53178_26 0 0 (by decide) hp2) vwC_D cs_X4_22 rfl rfl (Nat.le_of_ble_eq_true rfl) ⟨by decide, by decide⟩ ⟨Nat.zero_le _, Nat.zero_le _⟩ dX4_reset_13 ?_
  refine ag_aload_n dX4_reset_16 rfl ?_
  refine ag_iconst (v := 0) dX4_reset_17 (by decide) ?_
  refine ag_iload_n dX4_reset_18 rfl ?_
  refine ag_isIp (c_J9_max_7cf53 0 x1  rfl) vwC_D cs_X4_28 rfl rfl (Nat.le_of_ble_eq_true rfl) ⟨by decide, by decide⟩ ⟨Nat.zero_le _, Nat.zero_le _⟩ dX4_reset_19 ?_
  refine ag_ltI (fun v3 => ?_)
  refine pC_X4_first ho0 fl_X4_34 dX4_reset_22 ?_
  refine ag_ltV (fun V4 => ?_)
  refine ag_aload_n dX4_reset_25 rfl ?_
  refine ag_iconst (v := 0) dX4_reset_26 (by decide) ?_
  refine pC_X4_objects ho0 fl_X4_37 dX4_reset_27 ?_
  refine ag_ltV (fun V5 => ?_)
  refine ag_aload_n dX4_reset_30 rfl ?_
  refine ag_iconst (v := 0) dX4_reset_31 (by decide) ?_
  refine pC_X4_given ho0 fl_X4_40 dX4_reset_32 ?_
  refine ag_ltV (fun V6 => ?_)
  refine ag_aload_n dX4_reset_35 rfl ?_
  refine ag_iconst (v := 0) dX4_reset_36 (by decide) ?_
  refine pC_X4_held ho0 fl_X4_43 dX4_reset_37 ?_
  refine ag_ltV (fun V7 => ?_)
  refine ag_aload_n dX4_reset_40 rfl ?_
  refine ag_iconst (v := 0) dX4_reset_41 (by decide) ?_
  refine pC_X4_sweeps ho0 fl_X4_46 dX4_reset_42 ?_
  refine ag_ltV (fun V8 => ?_)
  refine ag_aload_n dX4_reset_45 rfl ?_
  refine ag_iconst (v := (-1)) dX4_reset_46 (by decide) ?_
  refine pC_X4_next ho0 fl_X4_9 dX4_reset_47 ?_
  refine ag_ltV (fun V9 => ?_)
  refine ag_aload_n dX4_reset_50 rfl ?_
  refine ag_iconst (v := 0) dX4_reset_51 (by decide) ?_
  refine pC_X4_asked (x := false) ho0 fl_X4_49 dX4_reset_52 ?_
  refine ag_ltV (fun V10 => ?_)
  exact ag_vrep dX4_reset_55
set_option maxRecDepth 100000 in
set_option maxHeartbeats 4000000 in
theorem c_X4_beginSweepIfDue {l : Launch} {D : va_G} {cy : Nat → ClassId} {bs kb : Nat} {V : HV} (o0 : Nat) (ho0 : o0 < 1) {z : HV} (hz : f_X4_beginSweepIfDue kb o0 V = some z) : CM l (aG 737 bs) D (tyL cy) (vwC cy bs kb) yX4_beginSweepIfDue cX4_beginSweepIfDue 3 none 1 21 tvV [.ref (bs + posC 3 o0)] V ((), z) := by
  refine cm_of vwC_D (by decide +kernel) (own := RX4) rfl (Nat.le_of_ble_eq_true rfl) (L := [some (.ref (bs + posC 3 o0)), none, none]) rfl hz (fun Γ => ?_)
  unfold f_X4_beginSweepIfDue
  refine ag_aload_n dX4_beginSweepIfDue_0 rfl ?_
  refine gC_X4_held ho0 fl_X4_43 dX4_beginSweepIfDue_1 ?_
  refine ag_jn1 (j := 38) (L1 := fun v1 => [some (.ref (bs + posC 3 o0)), none, none]) (st1 := fun v1 => [.int (b2i v1)]) (ws1 := fun v1 => vwC cy bs kb V) (fun v1 => ?_) (fun k2 hk3 => ?_)
  · refine ag_istore_n (L' := [some (.ref (bs + posC 3 o0)), some (.int (b2i v1)), none]) dX4_beginSweepIfDue_38 (by decide) rfl ?_
    refine ag_aload_n dX4_beginSweepIfDue_39 rfl ?_
    refine ag_dup dX4_beginSweepIfDue_40 rfl ?_
    refine gC_X4_asked ho0 fl_X4_49 dX4_beginSweepIfDue_41 ?_
    refine ag_aload_n dX4_beginSweepIfDue_44 rfl ?_
    refine gC_X4_held ho0 fl_X4_43 dX4_beginSweepIfDue_45 ?_
    refine ag_dv (j := 60) (L1 := fun _ => [some (.ref (bs + posC 3 o0)), some (.int (b2i v1)), none]) (st1 := fun v4 => [.int (b2i v4), .int (b2i (i2b (V 308 o0 0))), .ref (bs + posC 3 o0)]) (ws1 := fun _ => vwC cy bs kb V) (fun v4 => ?_) (fun k28 hk5 => ?_)
    · refine ag_zand (a := (i2b (V 308 o0 0))) (b := v4) dX4_beginSweepIfDue_60 ?_
      refine pC_X4_asked (x := ((i2b (V 308 o0 0)) && v4)) ho0 fl_X4_49 dX4_beginSweepIfDue_61 ?_
      refine ag_ltV (fun V6 => ?_)
      refine ag_iload_n dX4_beginSweepIfDue_64 rfl ?_
      refine ag_bif_eq (tgt := 120) dX4_beginSweepIfDue_65 (by decide) (fun h7 => ?_) (fun h7 => ?_)
      · exact ag_vrep dX4_beginSweepIfDue_120
      · refine ag_aload_n dX4_beginSweepIfDue_68 rfl ?_
        refine ag_iconst (v := 0) dX4_beginSweepIfDue_69 (by decide) ?_
        refine pC_X4_next ho0 fl_X4_9 dX4_beginSweepIfDue_70 ?_
        refine ag_ltV (fun V8 => ?_)
        refine ag_aload_n dX4_beginSweepIfDue_73 rfl ?_
        refine gC_X4_first ho0 fl_X4_34 dX4_beginSweepIfDue_74 ?_
        refine ag_ltI (fun v9 => ?_)
        refine ag_istore_n (L' := [some (.ref (bs + posC 3 o0)), some (.int (b2i v1)), some (.int v9)]) dX4_beginSweepIfDue_77 (by decide) rfl ?_
        refine ag_jn1 (j := 120) (L1 := fun V12 => [some (.ref (bs + posC 3 o0)), some (.int (b2i v1)), none]) (st1 := fun V12 => []) (ws1 := fun V12 => vwC cy bs kb V12) (fun V12 => ?_) (fun k10 hk11 => ?_)
        · exact ag_vrep dX4_beginSweepIfDue_120
        · refine ag_loop2 (F := f_X4_beginSweepIfDue_L78 kb k10) (L1 := fun v13 V14 => [some (.ref (bs + posC 3 o0)), some (.int (b2i v1)), some (.int v13)]) (st1 := fun v13 V14 => []) (ws1 := fun v13 V14 => vwC cy bs kb V14) (fun n15 ih16 v13 V14 => ?_) (fun _ _ => rfl) FU v9 V8
          rw [f_X4_beginSweepIfDue_L78]
          refine ag_iload_n dX4_beginSweepIfDue_78 rfl ?_
          refine ag_aload_n dX4_beginSweepIfDue_79 rfl ?_
          refine gC_X4_sizes ho0 fl_X4_15 dX4_beginSweepIfDue_80 ?_
          refine nC_25 (by decide) dX4_beginSweepIfDue_83 ?_
          refine ag_icmp_ge (tgt := 120) dX4_beginSweepIfDue_84 (by decide) (fun h17 => ?_) (fun h17 => ?_)
          · refine ag_drop [2] (L' := [some (.ref (bs + posC 3 o0)), some (.int (b2i v1)), none]) rfl ?_
            exact hk11 V14
          · refine ag_aload_n dX4_beginSweepIfDue_87 rfl ?_
            refine gC_X4_uses ho0 fl_X4_19 dX4_beginSweepIfDue_88 ?_
            refine ag_iload_n dX4_beginSweepIfDue_91 rfl ?_
            refine ag_chk (fun h18 => ?_)
            refine aC_26 (by decide) h18 dX4_beginSweepIfDue_92 ?_
            refine ag_iconst (v := 2) dX4_beginSweepIfDue_93 (by decide) ?_
            refine ag_jn1 (j := 104) (L1 := fun V19 => [some (.ref (bs + posC 3 o0)), some (.int (b2i v1)), some (.int v13)]) (st1 := fun V19 => []) (ws1 := fun V19 => vwC cy bs kb V19) (fun V19 => ?_) (fun k20 hk21 => ?_)
            · refine ag_iload_n dX4_beginSweepIfDue_104 rfl ?_
              refine ag_iconst (v := 1) dX4_beginSweepIfDue_105 (by decide) ?_
              refine ag_aload_n dX4_beginSweepIfDue_106 rfl ?_
              refine gC_X4_sizes ho0 fl_X4_15 dX4_beginSweepIfDue_107 ?_
              refine ag_iload_n dX4_beginSweepIfDue_110 rfl ?_
              refine ag_chk (fun h22 => ?_)
              refine aC_25 (by decide) h22 dX4_beginSweepIfDue_111 ?_
              refine ag_isIp (c_J9_max_7cf53 1 (V19 2500 0 (v13).toNatClampNeg)  rfl) vwC_D cs_X4_28 rfl rfl (Nat.le_of_ble_eq_true rfl) ⟨by decide, by decide⟩ ⟨Nat.zero_le _, Nat.zero_le _⟩ dX4_beginSweepIfDue_112 ?_
              refine ag_ltI (fun v23 => ?_)
              refine ag_iadd dX4_beginSweepIfDue_115 ?_
              refine ag_ltI (fun v24 => ?_)
              refine ag_istore_n (L' := [some (.ref (bs + posC 3 o0)), some (.int (b2i v1)), some (.int v24)]) dX4_beginSweepIfDue_116 (by decide) rfl ?_
              refine ag_goto (tgt := 78) dX4_beginSweepIfDue_117 (by decide) ?_
              exact ih16 v24 V19
            · refine ag_icmp_ne (tgt := 104) dX4_beginSweepIfDue_94 (by decide) (fun h25 => ?_) (fun h25 => ?_)
              · exact hk21 V14
              · refine ag_aload_n dX4_beginSweepIfDue_97 rfl ?_
                refine gC_X4_uses ho0 fl_X4_19 dX4_beginSweepIfDue_98 ?_
                refine ag_iload_n dX4_beginSweepIfDue_101 rfl ?_
                refine ag_iconst (v := 3) dX4_beginSweepIfDue_102 (by decide) ?_
                refine ag_chk (fun h26 => ?_)
                refine sC_26 (by decide) h26 dX4_beginSweepIfDue_103 ?_
                refine ag_ltV (fun V27 => ?_)
                exact hk21 V27
    · refine ag_if_le_v (tgt := 59) dX4_beginSweepIfDue_48 (by decide) (fun h29 => ?_) (fun h29 => ?_)
      · refine ag_iconst (v := 0) dX4_beginSweepIfDue_59 (by decide) ?_
        exact hk5 false
      · refine ag_iload_n dX4_beginSweepIfDue_51 rfl ?_
        refine ag_bif_ne_v (tgt := 59) dX4_beginSweepIfDue_52 (by decide) (fun h30 => ?_) (fun h30 => ?_)
        · refine ag_iconst (v := 0) dX4_beginSweepIfDue_59 (by decide) ?_
          exact hk5 false
        · refine ag_iconst (v := 1) dX4_beginSweepIfDue_55 (by decide) ?_
          refine ag_goto (tgt := 60) dX4_beginSweepIfDue_56 (by decide) ?_
          exact hk5 true
  · refine ag_jn0 (j := 37) (L1 := [some (.ref (bs + posC 3 o0)), none, none]) (st1 := []) (ws1 := vwC cy bs kb V) (?_) (fun k31 hk32 => ?_)
    · refine ag_iconst (v := 0) dX4_beginSweepIfDue_37 (by decide) ?_
      exact hk3 false
    · refine ag_if_le (tgt := 37) dX4_beginSweepIfDue_4 (by decide) (fun h33 => ?_) (fun h33 => ?_)
      · exact hk32
      · refine ag_aload_n dX4_beginSweepIfDue_7 rfl ?_
        refine gC_X4_asked ho0 fl_X4_49 dX4_beginSweepIfDue_8 ?_
        refine ag_jn0 (j := 33) (L1 := [some (.ref (bs + posC 3 o0)), none, none]) (st1 := []) (ws1 := vwC cy bs kb V) (?_) (fun k34 hk35 => ?_)
        · refine ag_iconst (v := 1) dX4_beginSweepIfDue_33 (by decide) ?_
          refine ag_goto (tgt := 38) dX4_beginSweepIfDue_34 (by decide) ?_
          exact hk3 true
        · refine ag_bif_ne (tgt := 33) dX4_beginSweepIfDue_11 (by decide) (fun h36 => ?_) (fun h36 => ?_)
          · exact hk35
          · refine ag_iconst (v := 4) dX4_beginSweepIfDue_14 (by decide) ?_
            refine ag_aload_n dX4_beginSweepIfDue_15 rfl ?_
            refine gC_X4_held ho0 fl_X4_43 dX4_beginSweepIfDue_16 ?_
            refine ag_imul dX4_beginSweepIfDue_19 ?_
            refine ag_aload_n dX4_beginSweepIfDue_20 rfl ?_
            refine gC_X4_sizes ho0 fl_X4_15 dX4_beginSweepIfDue_21 ?_
            refine nC_25 (by decide) dX4_beginSweepIfDue_24 ?_
            refine ag_aload_n dX4_beginSweepIfDue_25 rfl ?_
            refine gC_X4_first ho0 fl_X4_34 dX4_beginSweepIfDue_26 ?_
            refine ag_isub dX4_beginSweepIfDue_29 ?_
            refine ag_icmp_lt (tgt := 37) dX4_beginSweepIfDue_30 (by decide) (fun h37 => ?_) (fun h37 => ?_)
            · exact hk32
            · exact hk35
set_option maxRecDepth 100000 in
set_option maxHeartbeats 4000000 in
theorem c_X4_endSweep {l : Launch} {D : va_G} {cy : Nat → ClassId} {bs kb : Nat} {V : HV} (o0 : Nat) (o1 : Nat) (ho0 : o0 < 1) (ho1 : o1 < 1) {z : HV} (hz : f_X4_endSweep kb o0 o1 V = some z) : CM l (aG 737 bs) D (tyL cy) (vwC cy bs kb) yX4_endSweep cX4_endSweep 4 none 2 50 tvV [.ref (bs + posC 3 o0), .ref (bs + posC 6 o1)] V ((), z) := by
  refine cm_of vwC_D (by decide +kernel) (own := RX4) rfl (Nat.le_of_ble_eq_true rfl) (L := [some (.ref (bs + posC 3 o0)), some (.ref (bs + posC 6 o1)), none, none]) rfl hz (fun Γ => ?_)
  unfold f_X4_endSweep
  refine ag_aload_n dX4_endSweep_0 rfl ?_
  refine ag_iconst (v := (-1)) dX4_endSweep_1 (by decide) ?_
  refine pC_X4_next ho0 fl_X4_9 dX4_endSweep_2 ?_
  refine ag_ltV (fun V1 => ?_)
  refine ag_aload_n dX4_endSweep_5 rfl ?_
  refine ag_dup dX4_endSweep_6 rfl ?_
  refine gC_X4_sweeps ho0 fl_X4_46 dX4_endSweep_7 ?_
  refine ag_iconst (v := 1) dX4_endSweep_10 (by decide) ?_
  refine ag_iadd dX4_endSweep_11 ?_
  refine pC_X4_sweeps ho0 fl_X4_46 dX4_endSweep_12 ?_
  refine ag_ltV (fun V2 => ?_)
  refine ag_aload_n dX4_endSweep_15 rfl ?_
  refine gC_X4_first ho0 fl_X4_34 dX4_endSweep_16 ?_
  refine ag_ltI (fun v3 => ?_)
  refine ag_istore_n (L' := [some (.ref (bs + posC 3 o0)), some (.ref (bs + posC 6 o1)), none, some (.int v3)]) dX4_endSweep_19 (by decide) rfl ?_
  refine ag_jn1 (j := 89) (L1 := fun V6 => [some (.ref (bs + posC 3 o0)), some (.ref (bs + posC 6 o1)), none, none]) (st1 := fun V6 => []) (ws1 := fun V6 => vwC cy bs kb V6) (fun V6 => ?_) (fun k4 hk5 => ?_)
  · exact ag_vrep dX4_endSweep_89
  · refine ag_loop2 (F := f_X4_endSweep_L20 o0 o1 kb k4) (L1 := fun v7 V8 => [some (.ref (bs + posC 3 o0)), some (.ref (bs + posC 6 o1)), none, some (.int v7)]) (st1 := fun v7 V8 => []) (ws1 := fun v7 V8 => vwC cy bs kb V8) (fun n9 ih10 v7 V8 => ?_) (fun _ _ => rfl) FU v3 V2
    rw [f_X4_endSweep_L20]
    refine ag_iload_n dX4_endSweep_20 rfl ?_
    refine ag_aload_n dX4_endSweep_21 rfl ?_
    refine gC_X4_sizes ho0 fl_X4_15 dX4_endSweep_22 ?_
    refine nC_25 (by decide) dX4_endSweep_25 ?_
    refine ag_icmp_ge (tgt := 89) dX4_endSweep_26 (by decide) (fun h11 => ?_) (fun h11 => ?_)
    · refine ag_drop [3] (L' := [some (.ref (bs + posC 3 o0)), some (.ref (bs + posC 6 o1)), none, none]) rfl ?_
      exact hk5 V8
    · refine ag_aload_n dX4_endSweep_29 rfl ?_
      refine gC_X4_sizes ho0 fl_X4_15 dX4_endSweep_30 ?_
      refine ag_iload_n dX4_endSweep_33 rfl ?_
      refine ag_chk (fun h12 => ?_)
      refine aC_25 (by decide) h12 dX4_endSweep_34 ?_
      refine ag_ltI (fun v13 => ?_)
      refine ag_istore_n (L' := [some (.ref (bs + posC 3 o0)), some (.ref (bs + posC 6 o1)), some (.int v13), some (.int v7)]) dX4_endSweep_35 (by decide) rfl ?_
      refine ag_aload_n dX4_endSweep_36 rfl ?_
      refine gC_X4_uses ho0 fl_X4_19 dX4_endSweep_37 ?_
      refine ag_iload_n dX4_endSweep_40 rfl ?_
      refine ag_chk (fun h14 => ?_)
      refine aC_26 (by decide) h14 dX4_endSweep_41 ?_
      refine ag_iconst (v := 3) dX4_endSweep_42 (by decide) ?_
      refine ag_jn1 (j := 78) (L1 := fun V15 => [some (.ref (bs + posC 3 o0)), some (.ref (bs + posC 6 o1)), some (.int v13), some (.int v7)]) (st1 := fun V15 => []) (ws1 := fun V15 => vwC cy bs kb V15) (fun V15 => ?_) (fun k16 hk17 => ?_)
      · refine ag_iload_n dX4_endSweep_78 rfl ?_
        refine ag_iconst (v := 1) dX4_endSweep_79 (by decide) ?_
        refine ag_iload_n dX4_endSweep_80 rfl ?_
        refine ag_isIp (c_J9_max_7cf53 1 v13  rfl) vwC_D cs_X4_28 rfl rfl (Nat.le_of_ble_eq_true rfl) ⟨by decide, by decide⟩ ⟨Nat.zero_le _, Nat.zero_le _⟩ dX4_endSweep_81 ?_
        refine ag_ltI (fun v18 => ?_)
        refine ag_iadd dX4_endSweep_84 ?_
        refine ag_ltI (fun v19 => ?_)
        refine ag_istore_n (L' := [some (.ref (bs + posC 3 o0)), some (.ref (bs + posC 6 o1)), some (.int v13), some (.int v19)]) dX4_endSweep_85 (by decide) rfl ?_
        refine ag_goto (tgt := 20) dX4_endSweep_86 (by decide) ?_
        refine ag_drop [2] (L' := [some (.ref (bs + posC 3 o0)), some (.ref (bs + posC 6 o1)), none, some (.int v19)]) rfl ?_
        exact ih10 v19 V15
      · refine ag_icmp_ne (tgt := 78) dX4_endSweep_43 (by decide) (fun h20 => ?_) (fun h20 => ?_)
        · exact hk17 V8
        · refine ag_aload_n dX4_endSweep_46 rfl ?_
          refine gC_X4_uses ho0 fl_X4_19 dX4_endSweep_47 ?_
          refine ag_iload_n dX4_endSweep_50 rfl ?_
          refine ag_iconst (v := 0) dX4_endSweep_51 (by decide) ?_
          refine ag_chk (fun h21 => ?_)
          refine sC_26 (by decide) h21 dX4_endSweep_52 ?_
          refine ag_ltV (fun V22 => ?_)
          refine ag_aload_n dX4_endSweep_53 rfl ?_
          refine gC_X4_sizes ho0 fl_X4_15 dX4_endSweep_54 ?_
          refine ag_iload_n dX4_endSweep_57 rfl ?_
          refine ag_iconst (v := 0) dX4_endSweep_58 (by decide) ?_
          refine ag_chk (fun h23 => ?_)
          refine sC_25 (by decide) h23 dX4_endSweep_59 ?_
          refine ag_ltV (fun V24 => ?_)
          refine ag_aload_n dX4_endSweep_60 rfl ?_
          refine ag_dup dX4_endSweep_61 rfl ?_
          refine gC_X4_held ho0 fl_X4_43 dX4_endSweep_62 ?_
          refine ag_iload_n dX4_endSweep_65 rfl ?_
          refine ag_isub dX4_endSweep_66 ?_
          refine pC_X4_held ho0 fl_X4_43 dX4_endSweep_67 ?_
          refine ag_ltV (fun V25 => ?_)
          refine ag_aload_n dX4_endSweep_70 rfl ?_
          refine ag_aload_n dX4_endSweep_71 rfl ?_
          refine ag_iload_n dX4_endSweep_72 rfl ?_
          refine ag_iload_n dX4_endSweep_73 rfl ?_
          refine ag_iconst (v := 0) dX4_endSweep_74 (by decide) ?_
          refine ag_bnd (fun p26 hp26 => ?_)
          refine ag_ivVe (c_X4_revoke o0 o1 v7 v13 false ho0 ho1 hp26) vwC_D (vwC_at (kpC_3 _ ho0)) rfl cs_X4_65 rfl rfl (Nat.le_of_ble_eq_true rfl) ⟨by decide, by decide⟩ ⟨Nat.zero_le _, Nat.zero_le _⟩ dX4_endSweep_75 ?_
          exact hk17 p26
set_option maxRecDepth 100000 in
set_option maxHeartbeats 4000000 in
theorem c_X4_placeOf {l : Launch} {D : va_G} {cy : Nat → ClassId} {bs kb : Nat} {V : HV} (o0 : Nat) (x1 : Int32) (ho0 : o0 < 1) {z : Int32} (hz : f_X4_placeOf kb o0 x1 V = some z) : CM l (aG 737 bs) D (tyL cy) (vwC cy bs kb) yX4_placeOf cX4_placeOf 4 (some .int) 1 21 tvI [.ref (bs + posC 3 o0), .int x1] V (z, V) := by
  refine cm_of vwC_D (by decide +kernel) (own := RX4) rfl (Nat.le_of_ble_eq_true rfl) (L := [some (.ref (bs + posC 3 o0)), some (.int x1), none, none]) rfl hz (fun Γ => ?_)
  unfold f_X4_placeOf
  refine ag_iload_n dX4_placeOf_0 rfl ?_
  refine ag_istore_n (L' := [some (.ref (bs + posC 3 o0)), some (.int x1), some (.int x1), none]) dX4_placeOf_1 (by decide) rfl ?_
  refine ag_aload_n dX4_placeOf_2 rfl ?_
  refine gC_X4_first ho0 fl_X4_34 dX4_placeOf_3 ?_
  refine ag_ltI (fun v1 => ?_)
  refine ag_istore_n (L' := [some (.ref (bs + posC 3 o0)), some (.int x1), some (.int x1), some (.int v1)]) dX4_placeOf_6 (by decide) rfl ?_
  refine ag_jn1 (j := 30) (L1 := fun v4 => [some (.ref (bs + posC 3 o0)), some (.int x1), none, some (.int v4)]) (st1 := fun v4 => []) (ws1 := fun v4 => vwC cy bs kb V) (fun v4 => ?_) (fun k2 hk3 => ?_)
  · refine ag_iload_n dX4_placeOf_30 rfl ?_
    refine ag_bipush (v := 16) dX4_placeOf_31 (by decide) ?_
    refine ag_imul dX4_placeOf_33 ?_
    exact ag_irpp dX4_placeOf_34
  · refine ag_loop2 (F := f_X4_placeOf_L7 kb V k2) (L1 := fun v5 v6 => [some (.ref (bs + posC 3 o0)), some (.int x1), some (.int v5), some (.int v6)]) (st1 := fun v5 v6 => []) (ws1 := fun v5 v6 => vwC cy bs kb V) (fun n7 ih8 v5 v6 => ?_) (fun _ _ => rfl) FU x1 v1
    rw [f_X4_placeOf_L7]
    refine ag_iload_n dX4_placeOf_7 rfl ?_
    refine ag_aload_n dX4_placeOf_8 rfl ?_
    refine gC_X4_sizes ho0 fl_X4_15 dX4_placeOf_9 ?_
    refine nC_25 (by decide) dX4_placeOf_12 ?_
    refine ag_icmp_ge (tgt := 54) dX4_placeOf_13 (by decide) (fun h9 => ?_) (fun h9 => ?_)
    · refine ag_iconst (v := (-1)) dX4_placeOf_54 (by decide) ?_
      exact ag_irpp dX4_placeOf_55
    · refine ag_aload_n dX4_placeOf_16 rfl ?_
      refine gC_X4_uses ho0 fl_X4_19 dX4_placeOf_17 ?_
      refine ag_iload_n dX4_placeOf_20 rfl ?_
      refine ag_chk (fun h10 => ?_)
      refine aC_26 (by decide) h10 dX4_placeOf_21 ?_
      refine ag_iconst (v := 1) dX4_placeOf_22 (by decide) ?_
      refine ag_jn1 (j := 38) (L1 := fun v11 => [some (.ref (bs + posC 3 o0)), some (.int x1), some (.int v11), some (.int v6)]) (st1 := fun v11 => []) (ws1 := fun v11 => vwC cy bs kb V) (fun v11 => ?_) (fun k12 hk13 => ?_)
      · refine ag_iload_n dX4_placeOf_38 rfl ?_
        refine ag_iconst (v := 1) dX4_placeOf_39 (by decide) ?_
        refine ag_aload_n dX4_placeOf_40 rfl ?_
        refine gC_X4_sizes ho0 fl_X4_15 dX4_placeOf_41 ?_
        refine ag_iload_n dX4_placeOf_44 rfl ?_
        refine ag_chk (fun h14 => ?_)
        refine aC_25 (by decide) h14 dX4_placeOf_45 ?_
        refine ag_isIp (c_J9_max_7cf53 1 (V 2500 0 (v6).toNatClampNeg)  rfl) vwC_D cs_X4_28 rfl rfl (Nat.le_of_ble_eq_true rfl) ⟨by decide, by decide⟩ ⟨Nat.zero_le _, Nat.zero_le _⟩ dX4_placeOf_46 ?_
        refine ag_ltI (fun v15 => ?_)
        refine ag_iadd dX4_placeOf_49 ?_
        refine ag_ltI (fun v16 => ?_)
        refine ag_istore_n (L' := [some (.ref (bs + posC 3 o0)), some (.int x1), some (.int v11), some (.int v16)]) dX4_placeOf_50 (by decide) rfl ?_
        refine ag_goto (tgt := 7) dX4_placeOf_51 (by decide) ?_
        exact ih8 v11 v16
      · refine ag_icmp_ne (tgt := 38) dX4_placeOf_23 (by decide) (fun h17 => ?_) (fun h17 => ?_)
        · exact hk13 v5
        · refine ag_iload_n dX4_placeOf_26 rfl ?_
          refine ag_if_ne (tgt := 35) dX4_placeOf_27 (by decide) (fun h18 => ?_) (fun h18 => ?_)
          · refine ag_iincL (L' := fun v19 => [some (.ref (bs + posC 3 o0)), some (.int x1), some (.int v19), some (.int v6)]) dX4_placeOf_35 (by decide) rfl (by decide) (fun _ => rfl) (fun v19 => ?_)
            exact hk13 v19
          · refine ag_drop [2] (L' := [some (.ref (bs + posC 3 o0)), some (.int x1), none, some (.int v6)]) rfl ?_
            exact hk3 v6
