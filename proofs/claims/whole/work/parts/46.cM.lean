set_option maxRecDepth 100000 in
set_option maxHeartbeats 4000000 in
theorem c_X12_alloc {l : Launch} {D : va_G} {cy : Nat → ClassId} {bs : Nat} {V : HV} (o0 : Nat) (x1 : Int32) (ho0 : o0 < 1) {z : HV} (hz : f_X12_alloc o0 x1 V = some z) : CM l (aG 57 bs) D (tyL cy) (vwM cy bs) yX12_alloc cX12_alloc 3 none 3 70 tvV [.ref (bs + posM 10 o0), .int x1] V ((), z) := by
  refine cm_of vwM_D (by decide +kernel) (own := RX12) rfl (Nat.le_of_ble_eq_true rfl) (L := [some (.ref (bs + posM 10 o0)), some (.int x1), none]) rfl hz (fun Γ => ?_)
  unfold f_X12_alloc
  refine ag_iload_n dX12_alloc_0 rfl ?_
  refine ag_iconst (v := 1) dX12_alloc_1 (by decide) ?_
  refine ag_icmp_lt (tgt := 18) dX12_alloc_2 (by decide) (fun h1 => ?_) (fun h1 => ?_)
  · exact ag_vrep dX12_alloc_18
  · refine ag_iload_n dX12_alloc_5 rfl ?_
    refine ag_aload_n dX12_alloc_6 rfl ?_
    refine gM_X12_size ho0 fl_X12_175 dX12_alloc_7 ?_
    refine ag_aload_n dX12_alloc_10 rfl ?_
    refine gM_X12_heapAt ho0 fl_X12_222 dX12_alloc_11 ?_
    refine ag_isub dX12_alloc_14 ?_
    refine ag_icmp_le (tgt := 19) dX12_alloc_15 (by decide) (fun h2 => ?_) (fun h2 => ?_)
    · refine ag_iload_n dX12_alloc_19 rfl ?_
      refine ag_bipush (v := 15) dX12_alloc_20 (by decide) ?_
      refine ag_iadd dX12_alloc_22 ?_
      refine ag_bipush (v := 16) dX12_alloc_23 (by decide) ?_
      refine ag_idiv dX12_alloc_25 (by decide) ?_
      refine ag_bipush (v := 16) dX12_alloc_26 (by decide) ?_
      refine ag_imul dX12_alloc_28 ?_
      refine ag_ltI (fun v3 => ?_)
      refine ag_istore_n (L' := [some (.ref (bs + posM 10 o0)), some (.int x1), some (.int v3)]) dX12_alloc_29 (by decide) rfl ?_
      refine ag_aload_n dX12_alloc_30 rfl ?_
      refine ag_aload_n dX12_alloc_31 rfl ?_
      refine gM_X12_t0 ho0 fl_X12_330 dX12_alloc_32 ?_
      refine ag_iload_n dX12_alloc_35 rfl ?_
      refine ag_bnd (fun p4 hp4 => ?_)
      refine ag_ivZe (c_X12_gets o0 (V 1080 o0 0) v3 ho0 hp4) vwM_D (vwM_at (kpM_10 _ ho0)) rfl cs_X12_497 rfl rfl (Nat.le_of_ble_eq_true rfl) ⟨by decide, by decide⟩ ⟨Nat.zero_le _, Nat.zero_le _⟩ dX12_alloc_36 ?_
      refine ag_bif_ne (tgt := 49) dX12_alloc_39 (by decide) (fun h5 => ?_) (fun h5 => ?_)
      · exact ag_vrep dX12_alloc_49
      · refine ag_aload_n dX12_alloc_42 rfl ?_
        refine ag_bnd (fun p6 hp6 => ?_)
        refine ag_ivZp (c_X12_anyFreed o0 ho0 hp6) vwM_D (vwM_at (kpM_10 _ ho0)) rfl cs_X12_500 rfl rfl (Nat.le_of_ble_eq_true rfl) ⟨by decide, by decide⟩ ⟨Nat.zero_le _, Nat.zero_le _⟩ dX12_alloc_43 ?_
        refine ag_bif_ne (tgt := 50) dX12_alloc_46 (by decide) (fun h7 => ?_) (fun h7 => ?_)
        · refine ag_aload_n dX12_alloc_50 rfl ?_
          refine ag_aload_n dX12_alloc_51 rfl ?_
          refine gM_X12_asked ho0 fl_X12_228 dX12_alloc_52 ?_
          refine ag_dv (j := 71) (L1 := fun _ => [some (.ref (bs + posM 10 o0)), some (.int x1), some (.int v3)]) (st1 := fun v8 => [.int (b2i v8), .ref (bs + posM 10 o0)]) (ws1 := fun _ => vwM cy bs p4.2) (fun v8 => ?_) (fun k17 hk9 => ?_)
          · refine pM_X12_asked (x := v8) ho0 fl_X12_228 dX12_alloc_71 ?_
            refine ag_ltV (fun V10 => ?_)
            refine ag_aload_n dX12_alloc_74 rfl ?_
            refine gM_X12_wants ho0 fl_X12_109 dX12_alloc_75 ?_
            refine ag_aload_n dX12_alloc_78 rfl ?_
            refine gM_X12_t0 ho0 fl_X12_330 dX12_alloc_79 ?_
            refine ag_iload_n dX12_alloc_82 rfl ?_
            refine ag_chk (fun h11 => ?_)
            refine sM_63 (by decide) h11 dX12_alloc_83 ?_
            refine ag_ltV (fun V12 => ?_)
            refine ag_aload_n dX12_alloc_84 rfl ?_
            refine gM_X12_state ho0 fl_X12_61 dX12_alloc_85 ?_
            refine ag_aload_n dX12_alloc_88 rfl ?_
            refine gM_X12_t0 ho0 fl_X12_330 dX12_alloc_89 ?_
            refine ag_iconst (v := 1) dX12_alloc_92 (by decide) ?_
            refine ag_chk (fun h13 => ?_)
            refine sM_47 (by decide) h13 dX12_alloc_93 ?_
            refine ag_ltV (fun V14 => ?_)
            refine ag_aload_n dX12_alloc_94 rfl ?_
            refine gM_X12_wake ho0 fl_X12_64 dX12_alloc_95 ?_
            refine ag_aload_n dX12_alloc_98 rfl ?_
            refine gM_X12_t0 ho0 fl_X12_330 dX12_alloc_99 ?_
            refine ag_iconst (v := (-1)) dX12_alloc_102 (by decide) ?_
            refine ag_chk (fun h15 => ?_)
            refine sM_48 (by decide) h15 dX12_alloc_103 ?_
            refine ag_ltV (fun V16 => ?_)
            exact ag_vrep dX12_alloc_104
          · refine ag_bif_ne_v (tgt := 66) dX12_alloc_55 (by decide) (fun h18 => ?_) (fun h18 => ?_)
            · refine ag_iconst (v := 1) dX12_alloc_66 (by decide) ?_
              refine ag_goto (tgt := 71) dX12_alloc_67 (by decide) ?_
              exact hk9 true
            · refine ag_aload_n dX12_alloc_58 rfl ?_
              refine gM_X12_sweeper ho0 fl_X12_231 dX12_alloc_59 ?_
              refine ag_iconst (v := (-1)) dX12_alloc_62 (by decide) ?_
              refine ag_icmp_ne_v (tgt := 70) dX12_alloc_63 (by decide) (fun h19 => ?_) (fun h19 => ?_)
              · refine ag_iconst (v := 0) dX12_alloc_70 (by decide) ?_
                exact hk9 false
              · refine ag_iconst (v := 1) dX12_alloc_66 (by decide) ?_
                refine ag_goto (tgt := 71) dX12_alloc_67 (by decide) ?_
                exact hk9 true
        · exact ag_vrep dX12_alloc_49
    · exact ag_vrep dX12_alloc_18
set_option maxRecDepth 100000 in
set_option maxHeartbeats 4000000 in
theorem c_X12_free {l : Launch} {D : va_G} {cy : Nat → ClassId} {bs : Nat} {V : HV} (o0 : Nat) (x1 : Int32) (ho0 : o0 < 1) {z : Bool × HV} (hz : f_X12_free o0 x1 V = some z) : CM l (aG 57 bs) D (tyL cy) (vwM cy bs) yX12_free cX12_free 4 (some .boolean) 0 0 tvZ [.ref (bs + posM 10 o0), .int x1] V z := by
  refine cm_of vwM_D (by decide +kernel) (own := RX12) rfl (Nat.le_of_ble_eq_true rfl) (L := [some (.ref (bs + posM 10 o0)), some (.int x1), none, none]) rfl hz (fun Γ => ?_)
  unfold f_X12_free
  refine ag_aload_n dX12_free_0 rfl ?_
  refine gM_X12_tag ho0 fl_X12_25 dX12_free_1 ?_
  refine ag_iload_n dX12_free_4 rfl ?_
  refine ag_chk (fun h1 => ?_)
  refine aM_29 (by decide) h1 dX12_free_5 ?_
  refine ag_bif_eq (tgt := 29) dX12_free_6 (by decide) (fun h2 => ?_) (fun h2 => ?_)
  · refine ag_iconst (v := 0) dX12_free_29 (by decide) ?_
    exact ag_zrep (x := false) dX12_free_30
  · refine ag_aload_n dX12_free_9 rfl ?_
    refine gM_X12_type ho0 fl_X12_22 dX12_free_10 ?_
    refine ag_iload_n dX12_free_13 rfl ?_
    refine ag_chk (fun h3 => ?_)
    refine aM_28 (by decide) h3 dX12_free_14 ?_
    refine ag_if_ne (tgt := 29) dX12_free_15 (by decide) (fun h4 => ?_) (fun h4 => ?_)
    · refine ag_iconst (v := 0) dX12_free_29 (by decide) ?_
      exact ag_zrep (x := false) dX12_free_30
    · refine ag_aload_n dX12_free_18 rfl ?_
      refine gM_X12_perms ho0 fl_X12_19 dX12_free_19 ?_
      refine ag_iload_n dX12_free_22 rfl ?_
      refine ag_chk (fun h5 => ?_)
      refine aM_27 (by decide) h5 dX12_free_23 ?_
      refine ag_iconst (v := 2) dX12_free_24 (by decide) ?_
      refine ag_iand dX12_free_25 ?_
      refine ag_if_ne (tgt := 31) dX12_free_26 (by decide) (fun h6 => ?_) (fun h6 => ?_)
      · refine ag_iconst (v := 0) dX12_free_31 (by decide) ?_
        refine ag_istore_n (L' := [some (.ref (bs + posM 10 o0)), some (.int x1), some (.int 0), none]) dX12_free_32 (by decide) rfl ?_
        refine ag_jn1 (j := 87) (L1 := fun v9 => [some (.ref (bs + posM 10 o0)), some (.int x1), some (.int v9), none]) (st1 := fun v9 => []) (ws1 := fun v9 => vwM cy bs V) (fun v9 => ?_) (fun k7 hk8 => ?_)
        · refine ag_aload_n dX12_free_87 rfl ?_
          refine gM_X12_isFreed ho0 fl_X12_127 dX12_free_88 ?_
          refine ag_iload_n dX12_free_91 rfl ?_
          refine ag_iconst (v := 1) dX12_free_92 (by decide) ?_
          refine ag_chk (fun h10 => ?_)
          refine sM_78 (x := true) (by decide) h10 dX12_free_93 ?_
          refine ag_ltV (fun V11 => ?_)
          refine ag_aload_n dX12_free_94 rfl ?_
          refine gM_X12_isSwept ho0 fl_X12_130 dX12_free_95 ?_
          refine ag_iload_n dX12_free_98 rfl ?_
          refine ag_iconst (v := 0) dX12_free_99 (by decide) ?_
          refine ag_chk (fun h12 => ?_)
          refine sM_79 (x := false) (by decide) h12 dX12_free_100 ?_
          refine ag_ltV (fun V13 => ?_)
          refine ag_aload_n dX12_free_101 rfl ?_
          refine gM_X12_base ho0 fl_X12_13 dX12_free_102 ?_
          refine ag_iload_n dX12_free_105 rfl ?_
          refine ag_chk (fun h14 => ?_)
          refine aM_25 (by decide) h14 dX12_free_106 ?_
          refine ag_ltI (fun v15 => ?_)
          refine ag_istore_n (L' := [some (.ref (bs + posM 10 o0)), some (.int x1), some (.int v9), some (.int v15)]) dX12_free_107 (by decide) rfl ?_
          refine ag_jn1 (j := 134) (L1 := fun V18 => [some (.ref (bs + posM 10 o0)), some (.int x1), some (.int v9), none]) (st1 := fun V18 => []) (ws1 := fun V18 => vwM cy bs V18) (fun V18 => ?_) (fun k16 hk17 => ?_)
          · refine ag_iconst (v := 1) dX12_free_134 (by decide) ?_
            exact ag_zrep (x := true) dX12_free_135
          · refine ag_loop2 (F := f_X12_free_L108 x1 k16) (L1 := fun v19 V20 => [some (.ref (bs + posM 10 o0)), some (.int x1), some (.int v9), some (.int v19)]) (st1 := fun v19 V20 => []) (ws1 := fun v19 V20 => vwM cy bs V20) (fun n21 ih22 v19 V20 => ?_) (fun _ _ => rfl) FU v15 V13
            rw [f_X12_free_L108]
            refine ag_iload_n dX12_free_108 rfl ?_
            refine ag_aload_n dX12_free_109 rfl ?_
            refine gM_X12_top ho0 fl_X12_16 dX12_free_110 ?_
            refine ag_iload_n dX12_free_113 rfl ?_
            refine ag_chk (fun h23 => ?_)
            refine aM_26 (by decide) h23 dX12_free_114 ?_
            refine ag_icmp_ge (tgt := 134) dX12_free_115 (by decide) (fun h24 => ?_) (fun h24 => ?_)
            · refine ag_drop [3] (L' := [some (.ref (bs + posM 10 o0)), some (.int x1), some (.int v9), none]) rfl ?_
              exact hk17 V20
            · refine ag_aload_n dX12_free_118 rfl ?_
              refine gM_X12_revoked ho0 fl_X12_185 dX12_free_119 ?_
              refine ag_iload_n dX12_free_122 rfl ?_
              refine ag_bipush (v := 16) dX12_free_123 (by decide) ?_
              refine ag_idiv dX12_free_125 (by decide) ?_
              refine ag_iconst (v := 1) dX12_free_126 (by decide) ?_
              refine ag_chk (fun h25 => ?_)
              refine sM_23 (x := true) (by decide) h25 dX12_free_127 ?_
              refine ag_ltV (fun V26 => ?_)
              refine ag_iincL (L' := fun v27 => [some (.ref (bs + posM 10 o0)), some (.int x1), some (.int v9), some (.int v27)]) dX12_free_128 (by decide) rfl (by decide) (fun _ => rfl) (fun v27 => ?_)
              refine ag_goto (tgt := 108) dX12_free_131 (by decide) ?_
              exact ih22 v27 V26
        · refine ag_loop1 (F := f_X12_free_L33 o0 x1 V k7) (L1 := fun v28 => [some (.ref (bs + posM 10 o0)), some (.int x1), some (.int v28), none]) (st1 := fun v28 => []) (ws1 := fun v28 => vwM cy bs V) (fun n29 ih30 v28 => ?_) (fun _ => rfl) FU 0
          rw [f_X12_free_L33]
          refine ag_iload_n dX12_free_33 rfl ?_
          refine ag_aload_n dX12_free_34 rfl ?_
          refine gM_X12_objects ho0 fl_X12_225 dX12_free_35 ?_
          refine ag_icmp_ge (tgt := 142) dX12_free_38 (by decide) (fun h31 => ?_) (fun h31 => ?_)
          · refine ag_iconst (v := 0) dX12_free_142 (by decide) ?_
            exact ag_zrep (x := false) dX12_free_143
          · refine ag_aload_n dX12_free_41 rfl ?_
            refine gM_X12_isFreed ho0 fl_X12_127 dX12_free_42 ?_
            refine ag_iload_n dX12_free_45 rfl ?_
            refine ag_chk (fun h32 => ?_)
            refine aM_78 (by decide) h32 dX12_free_46 ?_
            refine ag_jn0 (j := 136) (L1 := [some (.ref (bs + posM 10 o0)), some (.int x1), some (.int v28), none]) (st1 := []) (ws1 := vwM cy bs V) (?_) (fun k33 hk34 => ?_)
            · refine ag_iincL (L' := fun v35 => [some (.ref (bs + posM 10 o0)), some (.int x1), some (.int v35), none]) dX12_free_136 (by decide) rfl (by decide) (fun _ => rfl) (fun v35 => ?_)
              refine ag_goto (tgt := 33) dX12_free_139 (by decide) ?_
              exact ih30 v35
            · refine ag_bif_ne (tgt := 136) dX12_free_47 (by decide) (fun h36 => ?_) (fun h36 => ?_)
              · exact hk34
              · refine ag_aload_n dX12_free_50 rfl ?_
                refine gM_X12_objectAt ho0 fl_X12_121 dX12_free_51 ?_
                refine ag_iload_n dX12_free_54 rfl ?_
                refine ag_chk (fun h37 => ?_)
                refine aM_76 (by decide) h37 dX12_free_55 ?_
                refine ag_aload_n dX12_free_56 rfl ?_
                refine gM_X12_base ho0 fl_X12_13 dX12_free_57 ?_
                refine ag_iload_n dX12_free_60 rfl ?_
                refine ag_chk (fun h38 => ?_)
                refine aM_25 (by decide) h38 dX12_free_61 ?_
                refine ag_icmp_ne (tgt := 136) dX12_free_62 (by decide) (fun h39 => ?_) (fun h39 => ?_)
                · exact hk34
                · refine ag_aload_n dX12_free_65 rfl ?_
                  refine gM_X12_objectAt ho0 fl_X12_121 dX12_free_66 ?_
                  refine ag_iload_n dX12_free_69 rfl ?_
                  refine ag_chk (fun h40 => ?_)
                  refine aM_76 (by decide) h40 dX12_free_70 ?_
                  refine ag_aload_n dX12_free_71 rfl ?_
                  refine gM_X12_objectSize ho0 fl_X12_124 dX12_free_72 ?_
                  refine ag_iload_n dX12_free_75 rfl ?_
                  refine ag_chk (fun h41 => ?_)
                  refine aM_77 (by decide) h41 dX12_free_76 ?_
                  refine ag_iadd dX12_free_77 ?_
                  refine ag_aload_n dX12_free_78 rfl ?_
                  refine gM_X12_top ho0 fl_X12_16 dX12_free_79 ?_
                  refine ag_iload_n dX12_free_82 rfl ?_
                  refine ag_chk (fun h42 => ?_)
                  refine aM_26 (by decide) h42 dX12_free_83 ?_
                  refine ag_icmp_ne (tgt := 136) dX12_free_84 (by decide) (fun h43 => ?_) (fun h43 => ?_)
                  · exact hk34
                  · exact hk8 v28
      · refine ag_iconst (v := 0) dX12_free_29 (by decide) ?_
        exact ag_zrep (x := false) dX12_free_30
set_option maxRecDepth 100000 in
set_option maxHeartbeats 4000000 in
theorem c_X12_answers {l : Launch} {D : va_G} {cy : Nat → ClassId} {bs : Nat} {V : HV} (o0 : Nat) (x1 : Int32) (ho0 : o0 < 1) {z : HV} (hz : f_X12_answers o0 x1 V = some z) : CM l (aG 57 bs) D (tyL cy) (vwM cy bs) yX12_answers cX12_answers 2 none 2 49 tvV [.ref (bs + posM 10 o0), .int x1] V ((), z) := by
  refine cm_of vwM_D (by decide +kernel) (own := RX12) rfl (Nat.le_of_ble_eq_true rfl) (L := [some (.ref (bs + posM 10 o0)), some (.int x1)]) rfl hz (fun Γ => ?_)
  unfold f_X12_answers
  refine ag_aload_n dX12_answers_0 rfl ?_
  refine ag_aload_n dX12_answers_1 rfl ?_
  refine gM_X12_t0 ho0 fl_X12_330 dX12_answers_2 ?_
  refine ag_bipush (v := 10) dX12_answers_5 (by decide) ?_
  refine ag_isIp (c_X12_reg (V 1080 o0 0) 10  rfl) vwM_D cs_X12_307 rfl rfl (Nat.le_of_ble_eq_true rfl) ⟨by decide, by decide⟩ ⟨Nat.zero_le _, Nat.zero_le _⟩ dX12_answers_7 ?_
  refine ag_ltI (fun v1 => ?_)
  refine ag_iload_n dX12_answers_10 rfl ?_
  refine ag_bnd (fun p2 hp2 => ?_)
  refine ag_ivVe (c_X12_number o0 v1 x1 ho0 hp2) vwM_D (vwM_at (kpM_10 _ ho0)) rfl cs_X12_333 rfl rfl (Nat.le_of_ble_eq_true rfl) ⟨by decide, by decide⟩ ⟨Nat.zero_le _, Nat.zero_le _⟩ dX12_answers_11 ?_
  exact ag_vrep dX12_answers_14
set_option maxRecDepth 100000 in
set_option maxHeartbeats 4000000 in
theorem c_X12_sleeps {l : Launch} {D : va_G} {cy : Nat → ClassId} {bs : Nat} {V : HV} (o0 : Nat) (x1 : Int32) (ho0 : o0 < 1) {z : HV} (hz : f_X12_sleeps o0 x1 V = some z) : CM l (aG 57 bs) D (tyL cy) (vwM cy bs) yX12_sleeps cX12_sleeps 2 none 0 0 tvV [.ref (bs + posM 10 o0), .int x1] V ((), z) := by
  refine cm_of vwM_D (by decide +kernel) (own := RX12) rfl (Nat.le_of_ble_eq_true rfl) (L := [some (.ref (bs + posM 10 o0)), some (.int x1)]) rfl hz (fun Γ => ?_)
  unfold f_X12_sleeps
  refine ag_aload_n dX12_sleeps_0 rfl ?_
  refine gM_X12_state ho0 fl_X12_61 dX12_sleeps_1 ?_
  refine ag_aload_n dX12_sleeps_4 rfl ?_
  refine gM_X12_t0 ho0 fl_X12_330 dX12_sleeps_5 ?_
  refine ag_iconst (v := 1) dX12_sleeps_8 (by decide) ?_
  refine ag_chk (fun h1 => ?_)
  refine sM_47 (by decide) h1 dX12_sleeps_9 ?_
  refine ag_ltV (fun V2 => ?_)
  refine ag_aload_n dX12_sleeps_10 rfl ?_
  refine gM_X12_wake ho0 fl_X12_64 dX12_sleeps_11 ?_
  refine ag_aload_n dX12_sleeps_14 rfl ?_
  refine gM_X12_t0 ho0 fl_X12_330 dX12_sleeps_15 ?_
  refine ag_iload_n dX12_sleeps_18 rfl ?_
  refine ag_chk (fun h3 => ?_)
  refine sM_48 (by decide) h3 dX12_sleeps_19 ?_
  refine ag_ltV (fun V4 => ?_)
  exact ag_vrep dX12_sleeps_20
set_option maxRecDepth 100000 in
set_option maxHeartbeats 4000000 in
theorem c_X12_isWord {l : Launch} {D : va_G} {cy : Nat → ClassId} {bs : Nat} {V : HV} (o0 : Nat) (x1 : Int32) (x2 : Int32) (ho0 : o0 < 1) {z : Bool} (hz : f_X12_isWord o0 x1 x2 V = some z) : CM l (aG 57 bs) D (tyL cy) (vwM cy bs) yX12_isWord cX12_isWord 3 (some .boolean) 2 44 tvZ [.ref (bs + posM 10 o0), .int x1, .int x2] V (z, V) := by
  refine cm_of vwM_D (by decide +kernel) (own := RX12) rfl (Nat.le_of_ble_eq_true rfl) (L := [some (.ref (bs + posM 10 o0)), some (.int x1), some (.int x2)]) rfl hz (fun Γ => ?_)
  unfold f_X12_isWord
  refine ag_aload_n dX12_isWord_0 rfl ?_
  refine ag_iload_n dX12_isWord_1 rfl ?_
  refine ag_iload_n dX12_isWord_2 rfl ?_
  refine ag_aload_n dX12_isWord_3 rfl ?_
  refine gM_X12_cursor ho0 fl_X12_7 dX12_isWord_4 ?_
  refine ag_iload_n dX12_isWord_7 rfl ?_
  refine ag_chk (fun h1 => ?_)
  refine aM_24 (by decide) h1 dX12_isWord_8 ?_
  refine ag_iconst (v := 4) dX12_isWord_9 (by decide) ?_
  refine ag_bnd (fun p2 hp2 => ?_)
  refine ag_ivIp (c_X12_refuses o0 x1 x2 (V 2400 0 (x1).toNatClampNeg) 4 ho0 hp2) vwM_D (vwM_at (kpM_10 _ ho0)) rfl cs_X12_358 rfl rfl (Nat.le_of_ble_eq_true rfl) ⟨by decide, by decide⟩ ⟨Nat.zero_le _, Nat.zero_le _⟩ dX12_isWord_10 ?_
  refine ag_if_ne (tgt := 33) dX12_isWord_13 (by decide) (fun h3 => ?_) (fun h3 => ?_)
  · refine ag_iconst (v := 0) dX12_isWord_33 (by decide) ?_
    exact ag_zrpp (x := false) dX12_isWord_34
  · refine ag_aload_n dX12_isWord_16 rfl ?_
    refine ag_aload_n dX12_isWord_17 rfl ?_
    refine gM_X12_cursor ho0 fl_X12_7 dX12_isWord_18 ?_
    refine ag_iload_n dX12_isWord_21 rfl ?_
    refine ag_chk (fun h4 => ?_)
    refine aM_24 (by decide) h4 dX12_isWord_22 ?_
    refine ag_ivZp (c_X12_isDevice o0 (V 2400 0 (x1).toNatClampNeg) ho0 rfl) vwM_D (vwM_at (kpM_10 _ ho0)) rfl cs_X12_408 rfl rfl (Nat.le_of_ble_eq_true rfl) ⟨by decide, by decide⟩ ⟨Nat.zero_le _, Nat.zero_le _⟩ dX12_isWord_23 ?_
    refine ag_ltZ (fun v5 => ?_)
    refine ag_bif_ne (tgt := 33) dX12_isWord_26 (by decide) (fun h6 => ?_) (fun h6 => ?_)
    · refine ag_iconst (v := 0) dX12_isWord_33 (by decide) ?_
      exact ag_zrpp (x := false) dX12_isWord_34
    · refine ag_iconst (v := 1) dX12_isWord_29 (by decide) ?_
      refine ag_goto (tgt := 34) dX12_isWord_30 (by decide) ?_
      exact ag_zrpp (x := true) dX12_isWord_34
set_option maxRecDepth 100000 in
set_option maxHeartbeats 4000000 in
theorem c_X12_waits {l : Launch} {D : va_G} {cy : Nat → ClassId} {bs : Nat} {V : HV} (o0 : Nat) (x1 : Int32) (x2 : Int32) (x3 : Int32) (ho0 : o0 < 1) {z : HV} (hz : f_X12_waits o0 x1 x2 x3 V = some z) : CM l (aG 57 bs) D (tyL cy) (vwM cy bs) yX12_waits cX12_waits 5 none 3 70 tvV [.ref (bs + posM 10 o0), .int x1, .int x2, .int x3] V ((), z) := by
  refine cm_of vwM_D (by decide +kernel) (own := RX12) rfl (Nat.le_of_ble_eq_true rfl) (L := [some (.ref (bs + posM 10 o0)), some (.int x1), some (.int x2), some (.int x3), none]) rfl hz (fun Γ => ?_)
  unfold f_X12_waits
  refine ag_aload_n dX12_waits_0 rfl ?_
  refine ag_iload_n dX12_waits_1 rfl ?_
  refine ag_iconst (v := 1) dX12_waits_2 (by decide) ?_
  refine ag_bnd (fun p1 hp1 => ?_)
  refine ag_ivZp (c_X12_isWord o0 x1 1 ho0 hp1) vwM_D (vwM_at (kpM_10 _ ho0)) rfl cs_X12_484 rfl rfl (Nat.le_of_ble_eq_true rfl) ⟨by decide, by decide⟩ ⟨Nat.zero_le _, Nat.zero_le _⟩ dX12_waits_3 ?_
  refine ag_dv (j := 25) (L1 := fun _ => [some (.ref (bs + posM 10 o0)), some (.int x1), some (.int x2), some (.int x3), none]) (st1 := fun v2 => [.int (b2i v2)]) (ws1 := fun _ => vwM cy bs V) (fun v2 => ?_) (fun k26 hk3 => ?_)
  · refine ag_istore (L' := [some (.ref (bs + posM 10 o0)), some (.int x1), some (.int x2), some (.int x3), some (.int (b2i v2))]) dX12_waits_25 (by decide) rfl ?_
    refine ag_iload dX12_waits_27 rfl ?_
    refine ag_jn0 (j := 47) (L1 := [some (.ref (bs + posM 10 o0)), some (.int x1), some (.int x2), some (.int x3), some (.int (b2i v2))]) (st1 := []) (ws1 := vwM cy bs V) (?_) (fun k4 hk5 => ?_)
    · refine ag_aload_n dX12_waits_47 rfl ?_
      refine ag_iload dX12_waits_48 rfl ?_
      refine ag_dv (j := 58) (L1 := fun _ => [some (.ref (bs + posM 10 o0)), some (.int x1), some (.int x2), some (.int x3), some (.int (b2i v2))]) (st1 := fun v6 => [.int v6, .ref (bs + posM 10 o0)]) (ws1 := fun _ => vwM cy bs V) (fun v6 => ?_) (fun k9 hk7 => ?_)
      · refine ag_bnd (fun p8 hp8 => ?_)
        refine ag_ivVe (c_X12_answers o0 v6 ho0 hp8) vwM_D (vwM_at (kpM_10 _ ho0)) rfl cs_X12_475 rfl rfl (Nat.le_of_ble_eq_true rfl) ⟨by decide, by decide⟩ ⟨Nat.zero_le _, Nat.zero_le _⟩ dX12_waits_58 ?_
        exact ag_vrep dX12_waits_61
      · refine ag_bif_eq_v (tgt := 57) dX12_waits_50 (by decide) (fun h10 => ?_) (fun h10 => ?_)
        · refine ag_iconst (v := (-1)) dX12_waits_57 (by decide) ?_
          exact hk7 (-1)
        · refine ag_iconst (v := 1) dX12_waits_53 (by decide) ?_
          refine ag_goto (tgt := 58) dX12_waits_54 (by decide) ?_
          exact hk7 1
    · refine ag_bif_eq (tgt := 47) dX12_waits_29 (by decide) (fun h11 => ?_) (fun h11 => ?_)
      · exact hk5
      · refine ag_aload_n dX12_waits_32 rfl ?_
        refine ag_aload_n dX12_waits_33 rfl ?_
        refine gM_X12_cursor ho0 fl_X12_7 dX12_waits_34 ?_
        refine ag_iload_n dX12_waits_37 rfl ?_
        refine ag_chk (fun h12 => ?_)
        refine aM_24 (by decide) h12 dX12_waits_38 ?_
        refine ag_iconst (v := 4) dX12_waits_39 (by decide) ?_
        refine ag_bnd (fun p13 hp13 => ?_)
        refine ag_ivIp (c_X12_get o0 (V 2400 0 (x1).toNatClampNeg) 4 ho0 hp13) vwM_D (vwM_at (kpM_10 _ ho0)) rfl cs_X12_264 rfl rfl (Nat.le_of_ble_eq_true rfl) ⟨by decide, by decide⟩ ⟨Nat.zero_le _, Nat.zero_le _⟩ dX12_waits_40 ?_
        refine ag_iload_n dX12_waits_43 rfl ?_
        refine ag_icmp_eq (tgt := 62) dX12_waits_44 (by decide) (fun h14 => ?_) (fun h14 => ?_)
        · refine ag_aload_n dX12_waits_62 rfl ?_
          refine ag_iconst (v := 2) dX12_waits_63 (by decide) ?_
          refine ag_bnd (fun p15 hp15 => ?_)
          refine ag_ivVe (c_X12_answers o0 2 ho0 hp15) vwM_D (vwM_at (kpM_10 _ ho0)) rfl cs_X12_475 rfl rfl (Nat.le_of_ble_eq_true rfl) ⟨by decide, by decide⟩ ⟨Nat.zero_le _, Nat.zero_le _⟩ dX12_waits_64 ?_
          refine ag_aload_n dX12_waits_67 rfl ?_
          refine gM_X12_state ho0 fl_X12_61 dX12_waits_68 ?_
          refine ag_aload_n dX12_waits_71 rfl ?_
          refine gM_X12_t0 ho0 fl_X12_330 dX12_waits_72 ?_
          refine ag_iconst (v := 2) dX12_waits_75 (by decide) ?_
          refine ag_chk (fun h16 => ?_)
          refine sM_47 (by decide) h16 dX12_waits_76 ?_
          refine ag_ltV (fun V17 => ?_)
          refine ag_aload_n dX12_waits_77 rfl ?_
          refine gM_X12_wake ho0 fl_X12_64 dX12_waits_78 ?_
          refine ag_aload_n dX12_waits_81 rfl ?_
          refine gM_X12_t0 ho0 fl_X12_330 dX12_waits_82 ?_
          refine ag_aload_n dX12_waits_85 rfl ?_
          refine gM_X12_time ho0 fl_X12_201 dX12_waits_86 ?_
          refine ag_iload_n dX12_waits_89 rfl ?_
          refine ag_iadd dX12_waits_90 ?_
          refine ag_chk (fun h18 => ?_)
          refine sM_48 (by decide) h18 dX12_waits_91 ?_
          refine ag_ltV (fun V19 => ?_)
          refine ag_aload_n dX12_waits_92 rfl ?_
          refine gM_X12_waitAt ho0 fl_X12_103 dX12_waits_93 ?_
          refine ag_aload_n dX12_waits_96 rfl ?_
          refine gM_X12_t0 ho0 fl_X12_330 dX12_waits_97 ?_
          refine ag_aload_n dX12_waits_100 rfl ?_
          refine gM_X12_cursor ho0 fl_X12_7 dX12_waits_101 ?_
          refine ag_iload_n dX12_waits_104 rfl ?_
          refine ag_chk (fun h20 => ?_)
          refine aM_24 (by decide) h20 dX12_waits_105 ?_
          refine ag_chk (fun h21 => ?_)
          refine sM_61 (by decide) h21 dX12_waits_106 ?_
          refine ag_ltV (fun V22 => ?_)
          refine ag_aload_n dX12_waits_107 rfl ?_
          refine gM_X12_waitOrder ho0 fl_X12_106 dX12_waits_108 ?_
          refine ag_aload_n dX12_waits_111 rfl ?_
          refine gM_X12_t0 ho0 fl_X12_330 dX12_waits_112 ?_
          refine ag_aload_n dX12_waits_115 rfl ?_
          refine gM_X12_orders ho0 fl_X12_219 dX12_waits_116 ?_
          refine ag_chk (fun h23 => ?_)
          refine sM_62 (by decide) h23 dX12_waits_119 ?_
          refine ag_ltV (fun V24 => ?_)
          refine ag_aload_n dX12_waits_120 rfl ?_
          refine ag_dup dX12_waits_121 rfl ?_
          refine gM_X12_orders ho0 fl_X12_219 dX12_waits_122 ?_
          refine ag_iconst (v := 1) dX12_waits_125 (by decide) ?_
          refine ag_iadd dX12_waits_126 ?_
          refine pM_X12_orders ho0 fl_X12_219 dX12_waits_127 ?_
          refine ag_ltV (fun V25 => ?_)
          exact ag_vrep dX12_waits_130
        · exact hk5
  · refine ag_bif_eq_v (tgt := 24) dX12_waits_6 (by decide) (fun h27 => ?_) (fun h27 => ?_)
    · refine ag_iconst (v := 0) dX12_waits_24 (by decide) ?_
      exact hk3 false
    · refine ag_iload_n dX12_waits_9 rfl ?_
      refine ag_if_lt_v (tgt := 24) dX12_waits_10 (by decide) (fun h28 => ?_) (fun h28 => ?_)
      · refine ag_iconst (v := 0) dX12_waits_24 (by decide) ?_
        exact hk3 false
      · refine ag_iload_n dX12_waits_13 rfl ?_
        refine ag_sipush (v := 10000) dX12_waits_14 (by decide) ?_
        refine ag_icmp_gt_v (tgt := 24) dX12_waits_17 (by decide) (fun h29 => ?_) (fun h29 => ?_)
        · refine ag_iconst (v := 0) dX12_waits_24 (by decide) ?_
          exact hk3 false
        · refine ag_iconst (v := 1) dX12_waits_20 (by decide) ?_
          refine ag_goto (tgt := 25) dX12_waits_21 (by decide) ?_
          exact hk3 true
set_option maxRecDepth 100000 in
set_option maxHeartbeats 4000000 in
theorem c_X12_wakes {l : Launch} {D : va_G} {cy : Nat → ClassId} {bs : Nat} {V : HV} (o0 : Nat) (x1 : Int32) (x2 : Int64) (ho0 : o0 < 1) {z : Int32 × HV} (hz : f_X12_wakes o0 x1 x2 V = some z) : CM l (aG 57 bs) D (tyL cy) (vwM cy bs) yX12_wakes cX12_wakes 9 (some .int) 2 49 tvI [.ref (bs + posM 10 o0), .int x1, .long x2] V z := by
  refine cm_of vwM_D (by decide +kernel) (own := RX12) rfl (Nat.le_of_ble_eq_true rfl) (L := [some (.ref (bs + posM 10 o0)), some (.int x1), some (.long x2), none, none, none, none, none, none]) rfl hz (fun Γ => ?_)
  unfold f_X12_wakes
  refine ag_iconst (v := 0) dX12_wakes_0 (by decide) ?_
  refine ag_istore (L' := [some (.ref (bs + posM 10 o0)), some (.int x1), some (.long x2), none, some (.int 0), none, none, none, none]) dX12_wakes_1 (by decide) rfl ?_
  refine ag_iconst (v := 1) dX12_wakes_3 (by decide) ?_
  refine ag_istore (L' := [some (.ref (bs + posM 10 o0)), some (.int x1), some (.long x2), none, some (.int 0), some (.int 1), none, none, none]) dX12_wakes_4 (by decide) rfl ?_
  refine ag_jn2 (j := 190) (L1 := fun v3 V4 => [some (.ref (bs + posM 10 o0)), some (.int x1), some (.long x2), none, some (.int v3), none, none, none, none]) (st1 := fun v3 V4 => []) (ws1 := fun v3 V4 => vwM cy bs V4) (fun v3 V4 => ?_) (fun k1 hk2 => ?_)
  · refine ag_iload dX12_wakes_190 rfl ?_
    exact ag_irep dX12_wakes_192
  · refine ag_loop3 (F := f_X12_wakes_L6 o0 x1 x2 k1) (L1 := fun v5 v6 V7 => [some (.ref (bs + posM 10 o0)), some (.int x1), some (.long x2), none, some (.int v5), some (.int (b2i v6)), none, none, none]) (st1 := fun v5 v6 V7 => []) (ws1 := fun v5 v6 V7 => vwM cy bs V7) (fun n8 ih9 v5 v6 V7 => ?_) (fun _ _ _ => rfl) FU 0 true V
    rw [f_X12_wakes_L6]
    refine ag_iload dX12_wakes_6 rfl ?_
    refine ag_bif_eq (tgt := 190) dX12_wakes_8 (by decide) (fun h10 => ?_) (fun h10 => ?_)
    · refine ag_drop [5] (L' := [some (.ref (bs + posM 10 o0)), some (.int x1), some (.long x2), none, some (.int v5), none, none, none, none]) rfl ?_
      exact hk2 v5 V7
    · refine ag_iload dX12_wakes_11 rfl ?_
      refine ag_i2l dX12_wakes_13 ?_
      refine ag_lload_n dX12_wakes_14 rfl ?_
      refine ag_lcmp dX12_wakes_15 ?_
      refine ag_if_ge (tgt := 190) dX12_wakes_16 (by decide) (fun h11 => ?_) (fun h11 => ?_)
      · refine ag_drop [5] (L' := [some (.ref (bs + posM 10 o0)), some (.int x1), some (.long x2), none, some (.int v5), none, none, none, none]) rfl ?_
        exact hk2 v5 V7
      · refine ag_iconst (v := (-1)) dX12_wakes_19 (by decide) ?_
        refine ag_istore (L' := [some (.ref (bs + posM 10 o0)), some (.int x1), some (.long x2), none, some (.int v5), some (.int (b2i v6)), some (.int (-1)), none, none]) dX12_wakes_20 (by decide) rfl ?_
        refine ag_iconst (v := 0) dX12_wakes_22 (by decide) ?_
        refine ag_istore (L' := [some (.ref (bs + posM 10 o0)), some (.int x1), some (.long x2), none, some (.int v5), some (.int (b2i v6)), some (.int (-1)), some (.int 0), none]) dX12_wakes_23 (by decide) rfl ?_
        refine ag_jn1 (j := 135) (L1 := fun v14 => [some (.ref (bs + posM 10 o0)), some (.int x1), some (.long x2), none, some (.int v5), some (.int (b2i v6)), some (.int v14), none, none]) (st1 := fun v14 => []) (ws1 := fun v14 => vwM cy bs V7) (fun v14 => ?_) (fun k12 hk13 => ?_)
        · refine ag_iload dX12_wakes_135 rfl ?_
          refine ag_iconst (v := (-1)) dX12_wakes_137 (by decide) ?_
          refine ag_dv (j := 146) (L1 := fun _ => [some (.ref (bs + posM 10 o0)), some (.int x1), some (.long x2), none, some (.int v5), some (.int (b2i v6)), some (.int v14), none, none]) (st1 := fun v15 => [.int (b2i v15)]) (ws1 := fun _ => vwM cy bs V7) (fun v15 => ?_) (fun k25 hk16 => ?_)
          · refine ag_istore (L' := [some (.ref (bs + posM 10 o0)), some (.int x1), some (.long x2), none, some (.int v5), some (.int (b2i v15)), some (.int v14), none, none]) dX12_wakes_146 (by decide) rfl ?_
            refine ag_iload dX12_wakes_148 rfl ?_
            refine ag_bif_ne (tgt := 156) dX12_wakes_150 (by decide) (fun h17 => ?_) (fun h17 => ?_)
            · refine ag_aload_n dX12_wakes_156 rfl ?_
              refine gM_X12_state ho0 fl_X12_61 dX12_wakes_157 ?_
              refine ag_iload dX12_wakes_160 rfl ?_
              refine ag_iconst (v := 0) dX12_wakes_162 (by decide) ?_
              refine ag_chk (fun h18 => ?_)
              refine sM_47 (by decide) h18 dX12_wakes_163 ?_
              refine ag_ltV (fun V19 => ?_)
              refine ag_aload_n dX12_wakes_164 rfl ?_
              refine gM_X12_wake ho0 fl_X12_64 dX12_wakes_165 ?_
              refine ag_iload dX12_wakes_168 rfl ?_
              refine ag_iconst (v := (-1)) dX12_wakes_170 (by decide) ?_
              refine ag_chk (fun h20 => ?_)
              refine sM_48 (by decide) h20 dX12_wakes_171 ?_
              refine ag_ltV (fun V21 => ?_)
              refine ag_aload_n dX12_wakes_172 rfl ?_
              refine ag_iload dX12_wakes_173 rfl ?_
              refine ag_bipush (v := 10) dX12_wakes_175 (by decide) ?_
              refine ag_isIp (c_X12_reg v14 10  rfl) vwM_D cs_X12_307 rfl rfl (Nat.le_of_ble_eq_true rfl) ⟨by decide, by decide⟩ ⟨Nat.zero_le _, Nat.zero_le _⟩ dX12_wakes_177 ?_
              refine ag_ltI (fun v22 => ?_)
              refine ag_iconst (v := 0) dX12_wakes_180 (by decide) ?_
              refine ag_bnd (fun p23 hp23 => ?_)
              refine ag_ivVe (c_X12_number o0 v22 0 ho0 hp23) vwM_D (vwM_at (kpM_10 _ ho0)) rfl cs_X12_333 rfl rfl (Nat.le_of_ble_eq_true rfl) ⟨by decide, by decide⟩ ⟨Nat.zero_le _, Nat.zero_le _⟩ dX12_wakes_181 ?_
              refine ag_iincL (L' := fun v24 => [some (.ref (bs + posM 10 o0)), some (.int x1), some (.long x2), none, some (.int v24), some (.int (b2i v15)), some (.int v14), none, none]) dX12_wakes_184 (by decide) rfl (by decide) (fun _ => rfl) (fun v24 => ?_)
              refine ag_goto (tgt := 6) dX12_wakes_187 (by decide) ?_
              refine ag_drop [6] (L' := [some (.ref (bs + posM 10 o0)), some (.int x1), some (.long x2), none, some (.int v24), some (.int (b2i v15)), none, none, none]) rfl ?_
              exact ih9 v24 v15 p23
            · refine ag_goto (tgt := 6) dX12_wakes_153 (by decide) ?_
              refine ag_drop [6] (L' := [some (.ref (bs + posM 10 o0)), some (.int x1), some (.long x2), none, some (.int v5), some (.int (b2i v15)), none, none, none]) rfl ?_
              exact ih9 v5 v15 V7
          · refine ag_icmp_eq_v (tgt := 145) dX12_wakes_138 (by decide) (fun h26 => ?_) (fun h26 => ?_)
            · refine ag_iconst (v := 0) dX12_wakes_145 (by decide) ?_
              exact hk16 false
            · refine ag_iconst (v := 1) dX12_wakes_141 (by decide) ?_
              refine ag_goto (tgt := 146) dX12_wakes_142 (by decide) ?_
              exact hk16 true
        · refine ag_loop2 (F := f_X12_wakes_L25 o0 x1 V7 k12) (L1 := fun v27 v28 => [some (.ref (bs + posM 10 o0)), some (.int x1), some (.long x2), none, some (.int v5), some (.int (b2i v6)), some (.int v27), some (.int v28), none]) (st1 := fun v27 v28 => []) (ws1 := fun v27 v28 => vwM cy bs V7) (fun n29 ih30 v27 v28 => ?_) (fun _ _ => rfl) FU (-1) 0
          rw [f_X12_wakes_L25]
          refine ag_iload dX12_wakes_25 rfl ?_
          refine ag_aload_n dX12_wakes_27 rfl ?_
          refine gM_X12_threads ho0 fl_X12_198 dX12_wakes_28 ?_
          refine ag_icmp_ge (tgt := 135) dX12_wakes_31 (by decide) (fun h31 => ?_) (fun h31 => ?_)
          · refine ag_drop [7] (L' := [some (.ref (bs + posM 10 o0)), some (.int x1), some (.long x2), none, some (.int v5), some (.int (b2i v6)), some (.int v27), none, none]) rfl ?_
            exact hk13 v27
          · refine ag_aload_n dX12_wakes_34 rfl ?_
            refine gM_X12_state ho0 fl_X12_61 dX12_wakes_35 ?_
            refine ag_iload dX12_wakes_38 rfl ?_
            refine ag_chk (fun h32 => ?_)
            refine aM_47 (by decide) h32 dX12_wakes_40 ?_
            refine ag_iconst (v := 2) dX12_wakes_41 (by decide) ?_
            refine ag_jn1 (j := 61) (L1 := fun v33 => [some (.ref (bs + posM 10 o0)), some (.int x1), some (.long x2), none, some (.int v5), some (.int (b2i v6)), some (.int v27), some (.int v28), none]) (st1 := fun v33 => [.int (b2i v33)]) (ws1 := fun v33 => vwM cy bs V7) (fun v33 => ?_) (fun k34 hk35 => ?_)
            · refine ag_istore (L' := [some (.ref (bs + posM 10 o0)), some (.int x1), some (.long x2), none, some (.int v5), some (.int (b2i v6)), some (.int v27), some (.int v28), some (.int (b2i v33))]) dX12_wakes_61 (by decide) rfl ?_
              refine ag_iload dX12_wakes_63 rfl ?_
              refine ag_jn1 (j := 129) (L1 := fun v36 => [some (.ref (bs + posM 10 o0)), some (.int x1), some (.long x2), none, some (.int v5), some (.int (b2i v6)), some (.int v36), some (.int v28), some (.int (b2i v33))]) (st1 := fun v36 => []) (ws1 := fun v36 => vwM cy bs V7) (fun v36 => ?_) (fun k37 hk38 => ?_)
              · refine ag_iincL (L' := fun v39 => [some (.ref (bs + posM 10 o0)), some (.int x1), some (.long x2), none, some (.int v5), some (.int (b2i v6)), some (.int v36), some (.int v39), some (.int (b2i v33))]) dX12_wakes_129 (by decide) rfl (by decide) (fun _ => rfl) (fun v39 => ?_)
                refine ag_goto (tgt := 25) dX12_wakes_132 (by decide) ?_
                refine ag_drop [8] (L' := [some (.ref (bs + posM 10 o0)), some (.int x1), some (.long x2), none, some (.int v5), some (.int (b2i v6)), some (.int v36), some (.int v39), none]) rfl ?_
                exact ih30 v36 v39
              · refine ag_bif_eq (tgt := 129) dX12_wakes_65 (by decide) (fun h40 => ?_) (fun h40 => ?_)
                · exact hk38 v27
                · refine ag_iload dX12_wakes_68 rfl ?_
                  refine ag_iconst (v := (-1)) dX12_wakes_70 (by decide) ?_
                  refine ag_jn0 (j := 125) (L1 := [some (.ref (bs + posM 10 o0)), some (.int x1), some (.long x2), none, some (.int v5), some (.int (b2i v6)), some (.int v27), some (.int v28), some (.int (b2i v33))]) (st1 := []) (ws1 := vwM cy bs V7) (?_) (fun k41 hk42 => ?_)
                  · refine ag_iload dX12_wakes_125 rfl ?_
                    refine ag_istore (L' := [some (.ref (bs + posM 10 o0)), some (.int x1), some (.long x2), none, some (.int v5), some (.int (b2i v6)), some (.int v28), some (.int v28), some (.int (b2i v33))]) dX12_wakes_127 (by decide) rfl ?_
                    exact hk38 v28
                  · refine ag_icmp_eq (tgt := 125) dX12_wakes_71 (by decide) (fun h43 => ?_) (fun h43 => ?_)
                    · exact hk42
                    · refine ag_aload_n dX12_wakes_74 rfl ?_
                      refine gM_X12_priority ho0 fl_X12_85 dX12_wakes_75 ?_
                      refine ag_iload dX12_wakes_78 rfl ?_
                      refine ag_chk (fun h44 => ?_)
                      refine aM_55 (by decide) h44 dX12_wakes_80 ?_
                      refine ag_aload_n dX12_wakes_81 rfl ?_
                      refine gM_X12_priority ho0 fl_X12_85 dX12_wakes_82 ?_
                      refine ag_iload dX12_wakes_85 rfl ?_
                      refine ag_chk (fun h45 => ?_)
                      refine aM_55 (by decide) h45 dX12_wakes_87 ?_
                      refine ag_icmp_gt (tgt := 125) dX12_wakes_88 (by decide) (fun h46 => ?_) (fun h46 => ?_)
                      · exact hk42
                      · refine ag_aload_n dX12_wakes_91 rfl ?_
                        refine gM_X12_priority ho0 fl_X12_85 dX12_wakes_92 ?_
                        refine ag_iload dX12_wakes_95 rfl ?_
                        refine ag_chk (fun h47 => ?_)
                        refine aM_55 (by decide) h47 dX12_wakes_97 ?_
                        refine ag_aload_n dX12_wakes_98 rfl ?_
                        refine gM_X12_priority ho0 fl_X12_85 dX12_wakes_99 ?_
                        refine ag_iload dX12_wakes_102 rfl ?_
                        refine ag_chk (fun h48 => ?_)
                        refine aM_55 (by decide) h48 dX12_wakes_104 ?_
                        refine ag_icmp_ne (tgt := 129) dX12_wakes_105 (by decide) (fun h49 => ?_) (fun h49 => ?_)
                        · exact hk38 v27
                        · refine ag_aload_n dX12_wakes_108 rfl ?_
                          refine gM_X12_waitOrder ho0 fl_X12_106 dX12_wakes_109 ?_
                          refine ag_iload dX12_wakes_112 rfl ?_
                          refine ag_chk (fun h50 => ?_)
                          refine aM_62 (by decide) h50 dX12_wakes_114 ?_
                          refine ag_aload_n dX12_wakes_115 rfl ?_
                          refine gM_X12_waitOrder ho0 fl_X12_106 dX12_wakes_116 ?_
                          refine ag_iload dX12_wakes_119 rfl ?_
                          refine ag_chk (fun h51 => ?_)
                          refine aM_62 (by decide) h51 dX12_wakes_121 ?_
                          refine ag_icmp_ge (tgt := 129) dX12_wakes_122 (by decide) (fun h52 => ?_) (fun h52 => ?_)
                          · exact hk38 v27
                          · exact hk42
            · refine ag_jn0 (j := 60) (L1 := [some (.ref (bs + posM 10 o0)), some (.int x1), some (.long x2), none, some (.int v5), some (.int (b2i v6)), some (.int v27), some (.int v28), none]) (st1 := []) (ws1 := vwM cy bs V7) (?_) (fun k53 hk54 => ?_)
              · refine ag_iconst (v := 0) dX12_wakes_60 (by decide) ?_
                exact hk35 false
              · refine ag_icmp_ne (tgt := 60) dX12_wakes_42 (by decide) (fun h55 => ?_) (fun h55 => ?_)
                · exact hk54
                · refine ag_aload_n dX12_wakes_45 rfl ?_
                  refine gM_X12_waitAt ho0 fl_X12_103 dX12_wakes_46 ?_
                  refine ag_iload dX12_wakes_49 rfl ?_
                  refine ag_chk (fun h56 => ?_)
                  refine aM_61 (by decide) h56 dX12_wakes_51 ?_
                  refine ag_iload_n dX12_wakes_52 rfl ?_
                  refine ag_icmp_ne (tgt := 60) dX12_wakes_53 (by decide) (fun h57 => ?_) (fun h57 => ?_)
                  · exact hk54
                  · refine ag_iconst (v := 1) dX12_wakes_56 (by decide) ?_
                    refine ag_goto (tgt := 61) dX12_wakes_57 (by decide) ?_
                    exact hk35 true
set_option maxRecDepth 100000 in
set_option maxHeartbeats 4000000 in
theorem c_X12_freeBytes {l : Launch} {D : va_G} {cy : Nat → ClassId} {bs : Nat} {V : HV} (o0 : Nat) (ho0 : o0 < 1) {z : Int32} (hz : f_X12_freeBytes o0 V = some z) : CM l (aG 57 bs) D (tyL cy) (vwM cy bs) yX12_freeBytes cX12_freeBytes 3 (some .int) 0 0 tvI [.ref (bs + posM 10 o0)] V (z, V) := by
  refine cm_of vwM_D (by decide +kernel) (own := RX12) rfl (Nat.le_of_ble_eq_true rfl) (L := [some (.ref (bs + posM 10 o0)), none, none]) rfl hz (fun Γ => ?_)
  unfold f_X12_freeBytes
  refine ag_aload_n dX12_freeBytes_0 rfl ?_
  refine gM_X12_size ho0 fl_X12_175 dX12_freeBytes_1 ?_
  refine ag_aload_n dX12_freeBytes_4 rfl ?_
  refine gM_X12_heapAt ho0 fl_X12_222 dX12_freeBytes_5 ?_
  refine ag_isub dX12_freeBytes_8 ?_
  refine ag_ltI (fun v1 => ?_)
  refine ag_istore_n (L' := [some (.ref (bs + posM 10 o0)), some (.int v1), none]) dX12_freeBytes_9 (by decide) rfl ?_
  refine ag_iconst (v := 0) dX12_freeBytes_10 (by decide) ?_
  refine ag_istore_n (L' := [some (.ref (bs + posM 10 o0)), some (.int v1), some (.int 0)]) dX12_freeBytes_11 (by decide) rfl ?_
  refine ag_jn1 (j := 35) (L1 := fun v4 => [some (.ref (bs + posM 10 o0)), some (.int v4), none]) (st1 := fun v4 => []) (ws1 := fun v4 => vwM cy bs V) (fun v4 => ?_) (fun k2 hk3 => ?_)
  · refine ag_iload_n dX12_freeBytes_35 rfl ?_
    exact ag_irpp dX12_freeBytes_36
  · refine ag_loop2 (F := f_X12_freeBytes_L12 o0 V k2) (L1 := fun v5 v6 => [some (.ref (bs + posM 10 o0)), some (.int v5), some (.int v6)]) (st1 := fun v5 v6 => []) (ws1 := fun v5 v6 => vwM cy bs V) (fun n7 ih8 v5 v6 => ?_) (fun _ _ => rfl) FU v1 0
    rw [f_X12_freeBytes_L12]
    refine ag_iload_n dX12_freeBytes_12 rfl ?_
    refine ag_aload_n dX12_freeBytes_13 rfl ?_
    refine gM_X12_objects ho0 fl_X12_225 dX12_freeBytes_14 ?_
    refine ag_icmp_ge (tgt := 35) dX12_freeBytes_17 (by decide) (fun h9 => ?_) (fun h9 => ?_)
    · refine ag_drop [2] (L' := [some (.ref (bs + posM 10 o0)), some (.int v5), none]) rfl ?_
      exact hk3 v5
    · refine ag_iload_n dX12_freeBytes_20 rfl ?_
      refine ag_aload_n dX12_freeBytes_21 rfl ?_
      refine gM_X12_objectSize ho0 fl_X12_124 dX12_freeBytes_22 ?_
      refine ag_iload_n dX12_freeBytes_25 rfl ?_
      refine ag_chk (fun h10 => ?_)
      refine aM_77 (by decide) h10 dX12_freeBytes_26 ?_
      refine ag_isub dX12_freeBytes_27 ?_
      refine ag_ltI (fun v11 => ?_)
      refine ag_istore_n (L' := [some (.ref (bs + posM 10 o0)), some (.int v11), some (.int v6)]) dX12_freeBytes_28 (by decide) rfl ?_
      refine ag_iincL (L' := fun v12 => [some (.ref (bs + posM 10 o0)), some (.int v11), some (.int v12)]) dX12_freeBytes_29 (by decide) rfl (by decide) (fun _ => rfl) (fun v12 => ?_)
      refine ag_goto (tgt := 12) dX12_freeBytes_32 (by decide) ?_
      exact ih8 v11 v12
set_option maxRecDepth 100000 in
set_option maxHeartbeats 4000000 in
theorem c_X12_serves {l : Launch} {D : va_G} {cy : Nat → ClassId} {bs : Nat} {V : HV} (o0 : Nat) (x1 : Int32) (x2 : Int32) (x3 : Int32) (x4 : Int32) (ho0 : o0 < 1) {z : HV} (hz : f_X12_serves o0 x1 x2 x3 x4 V = some z) : CM l (aG 57 bs) D (tyL cy) (vwM cy bs) yX12_serves cX12_serves 5 none 4 94 tvV [.ref (bs + posM 10 o0), .int x1, .int x2, .int x3, .int x4] V ((), z) := by
  refine cm_of vwM_D (by decide +kernel) (own := RX12) rfl (Nat.le_of_ble_eq_true rfl) (L := [some (.ref (bs + posM 10 o0)), some (.int x1), some (.int x2), some (.int x3), some (.int x4)]) rfl hz (fun Γ => ?_)
  unfold f_X12_serves
  refine ag_iload_n dX12_serves_0 rfl ?_
  refine ag_if (fun h1 => ?_) (fun h1 => ?_)
  · refine ag_tab (off := 47) (tgt := 48) h1 dX12_serves_1 (by decide) (by decide) (by decide) (by decide) ?_
    refine ag_aload_n dX12_serves_48 rfl ?_
    refine ag_iload_n dX12_serves_49 rfl ?_
    refine ag_bnd (fun p2 hp2 => ?_)
    refine ag_ivVe (c_X12_alloc o0 x2 ho0 hp2) vwM_D (vwM_at (kpM_10 _ ho0)) rfl cs_X12_469 rfl rfl (Nat.le_of_ble_eq_true rfl) ⟨by decide, by decide⟩ ⟨Nat.zero_le _, Nat.zero_le _⟩ dX12_serves_50 ?_
    refine ag_goto (tgt := 220) dX12_serves_53 (by decide) ?_
    exact ag_vrep dX12_serves_220
  · refine ag_if (fun h3 => ?_) (fun h3 => ?_)
    · refine ag_tab (off := 55) (tgt := 56) h3 dX12_serves_1 (by decide) (by decide) (by decide) (by decide) ?_
      refine ag_aload_n dX12_serves_56 rfl ?_
      refine ag_aload_n dX12_serves_57 rfl ?_
      refine ag_sipush (v := 584) dX12_serves_58 (by decide) ?_
      refine ag_bnd (fun p4 hp4 => ?_)
      refine ag_ivZe (c_X12_free o0 584 ho0 hp4) vwM_D (vwM_at (kpM_10 _ ho0)) rfl cs_X12_472 rfl rfl (Nat.le_of_ble_eq_true rfl) ⟨by decide, by decide⟩ ⟨Nat.zero_le _, Nat.zero_le _⟩ dX12_serves_61 ?_
      refine ag_dv (j := 72) (L1 := fun _ => [some (.ref (bs + posM 10 o0)), some (.int x1), some (.int x2), some (.int x3), some (.int x4)]) (st1 := fun v5 => [.int v5, .ref (bs + posM 10 o0)]) (ws1 := fun _ => vwM cy bs p4.2) (fun v5 => ?_) (fun k8 hk6 => ?_)
      · refine ag_bnd (fun p7 hp7 => ?_)
        refine ag_ivVe (c_X12_answers o0 v5 ho0 hp7) vwM_D (vwM_at (kpM_10 _ ho0)) rfl cs_X12_475 rfl rfl (Nat.le_of_ble_eq_true rfl) ⟨by decide, by decide⟩ ⟨Nat.zero_le _, Nat.zero_le _⟩ dX12_serves_72 ?_
        refine ag_goto (tgt := 220) dX12_serves_75 (by decide) ?_
        exact ag_vrep dX12_serves_220
      · refine ag_bif_eq_v (tgt := 71) dX12_serves_64 (by decide) (fun h9 => ?_) (fun h9 => ?_)
        · refine ag_iconst (v := (-1)) dX12_serves_71 (by decide) ?_
          exact hk6 (-1)
        · refine ag_iconst (v := 0) dX12_serves_67 (by decide) ?_
          refine ag_goto (tgt := 72) dX12_serves_68 (by decide) ?_
          exact hk6 0
    · refine ag_if (fun h10 => ?_) (fun h10 => ?_)
      · refine ag_tab (off := 77) (tgt := 78) h10 dX12_serves_1 (by decide) (by decide) (by decide) (by decide) ?_
        refine ag_aload_n dX12_serves_78 rfl ?_
        refine ag_iconst (v := 0) dX12_serves_79 (by decide) ?_
        refine ag_bnd (fun p11 hp11 => ?_)
        refine ag_ivVe (c_X12_answers o0 0 ho0 hp11) vwM_D (vwM_at (kpM_10 _ ho0)) rfl cs_X12_475 rfl rfl (Nat.le_of_ble_eq_true rfl) ⟨by decide, by decide⟩ ⟨Nat.zero_le _, Nat.zero_le _⟩ dX12_serves_80 ?_
        refine ag_aload_n dX12_serves_83 rfl ?_
        refine ag_iconst (v := (-1)) dX12_serves_84 (by decide) ?_
        refine pM_X12_current ho0 fl_X12_204 dX12_serves_85 ?_
        refine ag_ltV (fun V12 => ?_)
        refine ag_goto (tgt := 220) dX12_serves_88 (by decide) ?_
        exact ag_vrep dX12_serves_220
      · refine ag_if (fun h13 => ?_) (fun h13 => ?_)
        · refine ag_tab (off := 90) (tgt := 91) h13 dX12_serves_1 (by decide) (by decide) (by decide) (by decide) ?_
          refine ag_aload_n dX12_serves_91 rfl ?_
          refine ag_iload_n dX12_serves_92 rfl ?_
          refine ag_iconst (v := 1) dX12_serves_93 (by decide) ?_
          refine ag_dv (j := 109) (L1 := fun _ => [some (.ref (bs + posM 10 o0)), some (.int x1), some (.int x2), some (.int x3), some (.int x4)]) (st1 := fun v14 => [.int v14, .ref (bs + posM 10 o0)]) (ws1 := fun _ => vwM cy bs V) (fun v14 => ?_) (fun k20 hk15 => ?_)
          · refine ag_bnd (fun p16 hp16 => ?_)
            refine ag_ivVe (c_X12_answers o0 v14 ho0 hp16) vwM_D (vwM_at (kpM_10 _ ho0)) rfl cs_X12_475 rfl rfl (Nat.le_of_ble_eq_true rfl) ⟨by decide, by decide⟩ ⟨Nat.zero_le _, Nat.zero_le _⟩ dX12_serves_109 ?_
            refine ag_iload_n dX12_serves_112 rfl ?_
            refine ag_iconst (v := 1) dX12_serves_113 (by decide) ?_
            refine ag_icmp_lt (tgt := 220) dX12_serves_114 (by decide) (fun h17 => ?_) (fun h17 => ?_)
            · exact ag_vrep dX12_serves_220
            · refine ag_iload_n dX12_serves_117 rfl ?_
              refine ag_sipush (v := 10000) dX12_serves_118 (by decide) ?_
              refine ag_icmp_gt (tgt := 220) dX12_serves_121 (by decide) (fun h18 => ?_) (fun h18 => ?_)
              · exact ag_vrep dX12_serves_220
              · refine ag_aload_n dX12_serves_124 rfl ?_
                refine ag_aload_n dX12_serves_125 rfl ?_
                refine gM_X12_time ho0 fl_X12_201 dX12_serves_126 ?_
                refine ag_iload_n dX12_serves_129 rfl ?_
                refine ag_iadd dX12_serves_130 ?_
                refine ag_bnd (fun p19 hp19 => ?_)
                refine ag_ivVe (c_X12_sleeps o0 ((p16 1047 o0 0) + x2) ho0 hp19) vwM_D (vwM_at (kpM_10 _ ho0)) rfl cs_X12_478 rfl rfl (Nat.le_of_ble_eq_true rfl) ⟨by decide, by decide⟩ ⟨Nat.zero_le _, Nat.zero_le _⟩ dX12_serves_131 ?_
                refine ag_goto (tgt := 220) dX12_serves_134 (by decide) ?_
                exact ag_vrep dX12_serves_220
          · refine ag_icmp_lt_v (tgt := 108) dX12_serves_94 (by decide) (fun h21 => ?_) (fun h21 => ?_)
            · refine ag_iconst (v := (-1)) dX12_serves_108 (by decide) ?_
              exact hk15 (-1)
            · refine ag_iload_n dX12_serves_97 rfl ?_
              refine ag_sipush (v := 10000) dX12_serves_98 (by decide) ?_
              refine ag_icmp_gt_v (tgt := 108) dX12_serves_101 (by decide) (fun h22 => ?_) (fun h22 => ?_)
              · refine ag_iconst (v := (-1)) dX12_serves_108 (by decide) ?_
                exact hk15 (-1)
              · refine ag_iconst (v := 0) dX12_serves_104 (by decide) ?_
                refine ag_goto (tgt := 109) dX12_serves_105 (by decide) ?_
                exact hk15 0
        · refine ag_if (fun h23 => ?_) (fun h23 => ?_)
          · refine ag_tab (off := 136) (tgt := 137) h23 dX12_serves_1 (by decide) (by decide) (by decide) (by decide) ?_
            refine ag_aload_n dX12_serves_137 rfl ?_
            refine ag_sipush (v := 584) dX12_serves_138 (by decide) ?_
            refine ag_iload_n dX12_serves_141 rfl ?_
            refine ag_iload dX12_serves_142 rfl ?_
            refine ag_bnd (fun p24 hp24 => ?_)
            refine ag_ivVe (c_X12_waits o0 584 x3 x4 ho0 hp24) vwM_D (vwM_at (kpM_10 _ ho0)) rfl cs_X12_481 rfl rfl (Nat.le_of_ble_eq_true rfl) ⟨by decide, by decide⟩ ⟨Nat.zero_le _, Nat.zero_le _⟩ dX12_serves_144 ?_
            refine ag_goto (tgt := 220) dX12_serves_147 (by decide) ?_
            exact ag_vrep dX12_serves_220
          · refine ag_if (fun h25 => ?_) (fun h25 => ?_)
            · refine ag_tab (off := 149) (tgt := 150) h25 dX12_serves_1 (by decide) (by decide) (by decide) (by decide) ?_
              refine ag_aload_n dX12_serves_150 rfl ?_
              refine ag_aload_n dX12_serves_151 rfl ?_
              refine ag_sipush (v := 584) dX12_serves_152 (by decide) ?_
              refine ag_iconst (v := 2) dX12_serves_155 (by decide) ?_
              refine ag_bnd (fun p26 hp26 => ?_)
              refine ag_ivZp (c_X12_isWord o0 584 2 ho0 hp26) vwM_D (vwM_at (kpM_10 _ ho0)) rfl cs_X12_484 rfl rfl (Nat.le_of_ble_eq_true rfl) ⟨by decide, by decide⟩ ⟨Nat.zero_le _, Nat.zero_le _⟩ dX12_serves_156 ?_
              refine ag_jn2 (j := 182) (L1 := fun v27 V28 => [some (.ref (bs + posM 10 o0)), some (.int x1), some (.int x2), some (.int x3), some (.int x4)]) (st1 := fun v27 V28 => [.int v27, .ref (bs + posM 10 o0)]) (ws1 := fun v27 V28 => vwM cy bs V28) (fun v27 V28 => ?_) (fun k29 hk30 => ?_)
              · refine ag_bnd (fun p31 hp31 => ?_)
                refine ag_ivVe (c_X12_answers o0 v27 ho0 hp31) vwM_D (vwM_at (kpM_10 _ ho0)) rfl cs_X12_475 rfl rfl (Nat.le_of_ble_eq_true rfl) ⟨by decide, by decide⟩ ⟨Nat.zero_le _, Nat.zero_le _⟩ dX12_serves_182 ?_
                refine ag_goto (tgt := 220) dX12_serves_185 (by decide) ?_
                exact ag_vrep dX12_serves_220
              · refine ag_bif_eq (tgt := 181) dX12_serves_159 (by decide) (fun h32 => ?_) (fun h32 => ?_)
                · refine ag_iconst (v := (-1)) dX12_serves_181 (by decide) ?_
                  exact hk30 (-1) V
                · refine ag_aload_n dX12_serves_162 rfl ?_
                  refine ag_aload_n dX12_serves_163 rfl ?_
                  refine gM_X12_cursor ho0 fl_X12_7 dX12_serves_164 ?_
                  refine ag_sipush (v := 584) dX12_serves_167 (by decide) ?_
                  refine ag_chk (fun h33 => ?_)
                  refine aM_24 (by decide) h33 dX12_serves_170 ?_
                  refine ag_iload_n dX12_serves_171 rfl ?_
                  refine ag_isJp (c_X12_plain x3  rfl) vwM_D cs_X12_260 rfl rfl (Nat.le_of_ble_eq_true rfl) ⟨by decide, by decide⟩ ⟨Nat.zero_le _, Nat.zero_le _⟩ dX12_serves_172 ?_
                  refine ag_ltJ (fun v34 => ?_)
                  refine ag_bnd (fun p35 hp35 => ?_)
                  refine ag_ivIe (c_X12_wakes o0 (V 2400 0 ((584 : Int32)).toNatClampNeg) v34 ho0 hp35) vwM_D (vwM_at (kpM_10 _ ho0)) rfl cs_X12_487 rfl rfl (Nat.le_of_ble_eq_true rfl) ⟨by decide, by decide⟩ ⟨Nat.zero_le _, Nat.zero_le _⟩ dX12_serves_175 ?_
                  refine ag_goto (tgt := 182) dX12_serves_178 (by decide) ?_
                  exact hk30 p35.1 p35.2
            · refine ag_if (fun h36 => ?_) (fun h36 => ?_)
              · refine ag_tab (off := 187) (tgt := 188) h36 dX12_serves_1 (by decide) (by decide) (by decide) (by decide) ?_
                refine ag_aload_n dX12_serves_188 rfl ?_
                refine ag_iconst (v := 1) dX12_serves_189 (by decide) ?_
                refine pM_X12_asked (x := true) ho0 fl_X12_228 dX12_serves_190 ?_
                refine ag_ltV (fun V37 => ?_)
                refine ag_aload_n dX12_serves_193 rfl ?_
                refine ag_iconst (v := 0) dX12_serves_194 (by decide) ?_
                refine ag_bnd (fun p38 hp38 => ?_)
                refine ag_ivVe (c_X12_answers o0 0 ho0 hp38) vwM_D (vwM_at (kpM_10 _ ho0)) rfl cs_X12_475 rfl rfl (Nat.le_of_ble_eq_true rfl) ⟨by decide, by decide⟩ ⟨Nat.zero_le _, Nat.zero_le _⟩ dX12_serves_195 ?_
                refine ag_goto (tgt := 220) dX12_serves_198 (by decide) ?_
                exact ag_vrep dX12_serves_220
              · refine ag_if (fun h39 => ?_) (fun h39 => ?_)
                · refine ag_tab (off := 200) (tgt := 201) h39 dX12_serves_1 (by decide) (by decide) (by decide) (by decide) ?_
                  refine ag_aload_n dX12_serves_201 rfl ?_
                  refine ag_aload_n dX12_serves_202 rfl ?_
                  refine gM_X12_t0 ho0 fl_X12_330 dX12_serves_203 ?_
                  refine ag_bnd (fun p40 hp40 => ?_)
                  refine ag_ivVe (c_X12_answers o0 (V 1080 o0 0) ho0 hp40) vwM_D (vwM_at (kpM_10 _ ho0)) rfl cs_X12_475 rfl rfl (Nat.le_of_ble_eq_true rfl) ⟨by decide, by decide⟩ ⟨Nat.zero_le _, Nat.zero_le _⟩ dX12_serves_206 ?_
                  refine ag_goto (tgt := 220) dX12_serves_209 (by decide) ?_
                  exact ag_vrep dX12_serves_220
                · refine ag_tabD (tgt := 212) dX12_serves_1 (by have z0 := lv_neT h1 (k := 0) (a := 0) (by decide); have z1 := lv_neT h3 (k := 1) (a := 1) (by decide); have z2 := lv_neT h10 (k := 2) (a := 2) (by decide); have z3 := lv_neT h13 (k := 3) (a := 3) (by decide); have z4 := lv_neT h23 (k := 4) (a := 4) (by decide); have z5 := lv_neT h25 (k := 5) (a := 5) (by decide); have z6 := lv_neT h36 (k := 6) (a := 6) (by decide); have z7 := lv_neT h39 (k := 7) (a := 7) (by decide); omega) (by decide) ?_
                  refine ag_aload_n dX12_serves_212 rfl ?_
                  refine ag_aload_n dX12_serves_213 rfl ?_
                  refine ag_bnd (fun p41 hp41 => ?_)
                  refine ag_ivIp (c_X12_freeBytes o0 ho0 hp41) vwM_D (vwM_at (kpM_10 _ ho0)) rfl cs_X12_491 rfl rfl (Nat.le_of_ble_eq_true rfl) ⟨by decide, by decide⟩ ⟨Nat.zero_le _, Nat.zero_le _⟩ dX12_serves_214 ?_
                  refine ag_bnd (fun p42 hp42 => ?_)
                  refine ag_ivVe (c_X12_answers o0 p41 ho0 hp42) vwM_D (vwM_at (kpM_10 _ ho0)) rfl cs_X12_475 rfl rfl (Nat.le_of_ble_eq_true rfl) ⟨by decide, by decide⟩ ⟨Nat.zero_le _, Nat.zero_le _⟩ dX12_serves_217 ?_
                  exact ag_vrep dX12_serves_220
set_option maxRecDepth 100000 in
set_option maxHeartbeats 4000000 in
theorem c_X12_service {l : Launch} {D : va_G} {cy : Nat → ClassId} {bs : Nat} {V : HV} (o0 : Nat) (x1 : Int32) (ho0 : o0 < 1) {z : HV} (hz : f_X12_service o0 x1 V = some z) : CM l (aG 57 bs) D (tyL cy) (vwM cy bs) yX12_service cX12_service 7 none 5 118 tvV [.ref (bs + posM 10 o0), .int x1] V ((), z) := by
  refine cm_of vwM_D (by decide +kernel) (own := RX12) rfl (Nat.le_of_ble_eq_true rfl) (L := [some (.ref (bs + posM 10 o0)), some (.int x1), none, none, none, none, none]) rfl hz (fun Γ => ?_)
  unfold f_X12_service
  refine ag_aload_n dX12_service_0 rfl ?_
  refine ag_dup dX12_service_1 rfl ?_
  refine gM_X12_services ho0 fl_X12_213 dX12_service_2 ?_
  refine ag_iconst (v := 1) dX12_service_5 (by decide) ?_
  refine ag_iadd dX12_service_6 ?_
  refine pM_X12_services ho0 fl_X12_213 dX12_service_7 ?_
  refine ag_ltV (fun V1 => ?_)
  refine ag_aload_n dX12_service_10 rfl ?_
  refine gM_X12_cursor ho0 fl_X12_7 dX12_service_11 ?_
  refine ag_aload_n dX12_service_14 rfl ?_
  refine gM_X12_t0 ho0 fl_X12_330 dX12_service_15 ?_
  refine ag_bipush (v := 10) dX12_service_18 (by decide) ?_
  refine ag_isIp (c_X12_reg (V1 1080 o0 0) 10  rfl) vwM_D cs_X12_307 rfl rfl (Nat.le_of_ble_eq_true rfl) ⟨by decide, by decide⟩ ⟨Nat.zero_le _, Nat.zero_le _⟩ dX12_service_20 ?_
  refine ag_ltI (fun v2 => ?_)
  refine ag_chk (fun h3 => ?_)
  refine aM_24 (by decide) h3 dX12_service_23 ?_
  refine ag_ltI (fun v4 => ?_)
  refine ag_istore_n (L' := [some (.ref (bs + posM 10 o0)), some (.int x1), some (.int v4), none, none, none, none]) dX12_service_24 (by decide) rfl ?_
  refine ag_aload_n dX12_service_25 rfl ?_
  refine gM_X12_cursor ho0 fl_X12_7 dX12_service_26 ?_
  refine ag_aload_n dX12_service_29 rfl ?_
  refine gM_X12_t0 ho0 fl_X12_330 dX12_service_30 ?_
  refine ag_bipush (v := 11) dX12_service_33 (by decide) ?_
  refine ag_isIp (c_X12_reg (V1 1080 o0 0) 11  rfl) vwM_D cs_X12_307 rfl rfl (Nat.le_of_ble_eq_true rfl) ⟨by decide, by decide⟩ ⟨Nat.zero_le _, Nat.zero_le _⟩ dX12_service_35 ?_
  refine ag_ltI (fun v5 => ?_)
  refine ag_chk (fun h6 => ?_)
  refine aM_24 (by decide) h6 dX12_service_38 ?_
  refine ag_ltI (fun v7 => ?_)
  refine ag_istore_n (L' := [some (.ref (bs + posM 10 o0)), some (.int x1), some (.int v4), some (.int v7), none, none, none]) dX12_service_39 (by decide) rfl ?_
  refine ag_aload_n dX12_service_40 rfl ?_
  refine gM_X12_cursor ho0 fl_X12_7 dX12_service_41 ?_
  refine ag_aload_n dX12_service_44 rfl ?_
  refine gM_X12_t0 ho0 fl_X12_330 dX12_service_45 ?_
  refine ag_bipush (v := 12) dX12_service_48 (by decide) ?_
  refine ag_isIp (c_X12_reg (V1 1080 o0 0) 12  rfl) vwM_D cs_X12_307 rfl rfl (Nat.le_of_ble_eq_true rfl) ⟨by decide, by decide⟩ ⟨Nat.zero_le _, Nat.zero_le _⟩ dX12_service_50 ?_
  refine ag_ltI (fun v8 => ?_)
  refine ag_chk (fun h9 => ?_)
  refine aM_24 (by decide) h9 dX12_service_53 ?_
  refine ag_ltI (fun v10 => ?_)
  refine ag_istore (L' := [some (.ref (bs + posM 10 o0)), some (.int x1), some (.int v4), some (.int v7), some (.int v10), none, none]) dX12_service_54 (by decide) rfl ?_
  refine ag_aload_n dX12_service_56 rfl ?_
  refine ag_aload_n dX12_service_57 rfl ?_
  refine gM_X12_t0 ho0 fl_X12_330 dX12_service_58 ?_
  refine ag_bipush (v := 10) dX12_service_61 (by decide) ?_
  refine ag_isIp (c_X12_reg (V1 1080 o0 0) 10  rfl) vwM_D cs_X12_307 rfl rfl (Nat.le_of_ble_eq_true rfl) ⟨by decide, by decide⟩ ⟨Nat.zero_le _, Nat.zero_le _⟩ dX12_service_63 ?_
  refine ag_ltI (fun v11 => ?_)
  refine ag_sipush (v := 584) dX12_service_66 (by decide) ?_
  refine ag_bnd (fun p12 hp12 => ?_)
  refine ag_ivVe (c_X12_copy o0 v11 584 ho0 hp12) vwM_D (vwM_at (kpM_10 _ ho0)) rfl cs_X12_336 rfl rfl (Nat.le_of_ble_eq_true rfl) ⟨by decide, by decide⟩ ⟨Nat.zero_le _, Nat.zero_le _⟩ dX12_service_69 ?_
  refine ag_iconst (v := 0) dX12_service_72 (by decide) ?_
  refine ag_istore (L' := [some (.ref (bs + posM 10 o0)), some (.int x1), some (.int v4), some (.int v7), some (.int v10), some (.int 0), none]) dX12_service_73 (by decide) rfl ?_
  refine ag_jn1 (j := 139) (L1 := fun V15 => [some (.ref (bs + posM 10 o0)), some (.int x1), some (.int v4), some (.int v7), some (.int v10), none, none]) (st1 := fun V15 => []) (ws1 := fun V15 => vwM cy bs V15) (fun V15 => ?_) (fun k13 hk14 => ?_)
  · refine ag_aload_n dX12_service_139 rfl ?_
    refine ag_iload_n dX12_service_140 rfl ?_
    refine ag_iload_n dX12_service_141 rfl ?_
    refine ag_iload_n dX12_service_142 rfl ?_
    refine ag_iload dX12_service_143 rfl ?_
    refine ag_bnd (fun p16 hp16 => ?_)
    refine ag_ivVe (c_X12_serves o0 x1 v4 v7 v10 ho0 hp16) vwM_D (vwM_at (kpM_10 _ ho0)) rfl cs_X12_465 rfl rfl (Nat.le_of_ble_eq_true rfl) ⟨by decide, by decide⟩ ⟨Nat.zero_le _, Nat.zero_le _⟩ dX12_service_145 ?_
    refine ag_aload_n dX12_service_148 rfl ?_
    refine ag_aload_n dX12_service_149 rfl ?_
    refine ag_ivIp (c_X12_pcc o0 ho0 rfl) vwM_D (vwM_at (kpM_10 _ ho0)) rfl cs_X12_339 rfl rfl (Nat.le_of_ble_eq_true rfl) ⟨by decide, by decide⟩ ⟨Nat.zero_le _, Nat.zero_le _⟩ dX12_service_150 ?_
    refine ag_ltI (fun v17 => ?_)
    refine ag_bnd (fun p18 hp18 => ?_)
    refine ag_ivVe (c_X12_filter o0 v17 ho0 hp18) vwM_D (vwM_at (kpM_10 _ ho0)) rfl cs_X12_417 rfl rfl (Nat.le_of_ble_eq_true rfl) ⟨by decide, by decide⟩ ⟨Nat.zero_le _, Nat.zero_le _⟩ dX12_service_153 ?_
    refine ag_aload_n dX12_service_156 rfl ?_
    refine ag_aload_n dX12_service_157 rfl ?_
    refine gM_X12_t0 ho0 fl_X12_330 dX12_service_158 ?_
    refine ag_iconst (v := 2) dX12_service_161 (by decide) ?_
    refine ag_isIp (c_X12_reg (p18 1080 o0 0) 2  rfl) vwM_D cs_X12_307 rfl rfl (Nat.le_of_ble_eq_true rfl) ⟨by decide, by decide⟩ ⟨Nat.zero_le _, Nat.zero_le _⟩ dX12_service_162 ?_
    refine ag_ltI (fun v19 => ?_)
    refine ag_bnd (fun p20 hp20 => ?_)
    refine ag_ivVe (c_X12_filter o0 v19 ho0 hp20) vwM_D (vwM_at (kpM_10 _ ho0)) rfl cs_X12_417 rfl rfl (Nat.le_of_ble_eq_true rfl) ⟨by decide, by decide⟩ ⟨Nat.zero_le _, Nat.zero_le _⟩ dX12_service_165 ?_
    refine ag_aload_n dX12_service_168 rfl ?_
    refine ag_aload_n dX12_service_169 rfl ?_
    refine gM_X12_t0 ho0 fl_X12_330 dX12_service_170 ?_
    refine ag_iconst (v := 3) dX12_service_173 (by decide) ?_
    refine ag_isIp (c_X12_reg (p20 1080 o0 0) 3  rfl) vwM_D cs_X12_307 rfl rfl (Nat.le_of_ble_eq_true rfl) ⟨by decide, by decide⟩ ⟨Nat.zero_le _, Nat.zero_le _⟩ dX12_service_174 ?_
    refine ag_ltI (fun v21 => ?_)
    refine ag_bnd (fun p22 hp22 => ?_)
    refine ag_ivVe (c_X12_filter o0 v21 ho0 hp22) vwM_D (vwM_at (kpM_10 _ ho0)) rfl cs_X12_417 rfl rfl (Nat.le_of_ble_eq_true rfl) ⟨by decide, by decide⟩ ⟨Nat.zero_le _, Nat.zero_le _⟩ dX12_service_177 ?_
    refine ag_aload_n dX12_service_180 rfl ?_
    refine ag_aload_n dX12_service_181 rfl ?_
    refine gM_X12_t0 ho0 fl_X12_330 dX12_service_182 ?_
    refine ag_bipush (v := 8) dX12_service_185 (by decide) ?_
    refine ag_isIp (c_X12_reg (p22 1080 o0 0) 8  rfl) vwM_D cs_X12_307 rfl rfl (Nat.le_of_ble_eq_true rfl) ⟨by decide, by decide⟩ ⟨Nat.zero_le _, Nat.zero_le _⟩ dX12_service_187 ?_
    refine ag_ltI (fun v23 => ?_)
    refine ag_bnd (fun p24 hp24 => ?_)
    refine ag_ivVe (c_X12_filter o0 v23 ho0 hp24) vwM_D (vwM_at (kpM_10 _ ho0)) rfl cs_X12_417 rfl rfl (Nat.le_of_ble_eq_true rfl) ⟨by decide, by decide⟩ ⟨Nat.zero_le _, Nat.zero_le _⟩ dX12_service_190 ?_
    refine ag_aload_n dX12_service_193 rfl ?_
    refine ag_aload_n dX12_service_194 rfl ?_
    refine gM_X12_t0 ho0 fl_X12_330 dX12_service_195 ?_
    refine ag_bipush (v := 9) dX12_service_198 (by decide) ?_
    refine ag_isIp (c_X12_reg (p24 1080 o0 0) 9  rfl) vwM_D cs_X12_307 rfl rfl (Nat.le_of_ble_eq_true rfl) ⟨by decide, by decide⟩ ⟨Nat.zero_le _, Nat.zero_le _⟩ dX12_service_200 ?_
    refine ag_ltI (fun v25 => ?_)
    refine ag_bnd (fun p26 hp26 => ?_)
    refine ag_ivVe (c_X12_filter o0 v25 ho0 hp26) vwM_D (vwM_at (kpM_10 _ ho0)) rfl cs_X12_417 rfl rfl (Nat.le_of_ble_eq_true rfl) ⟨by decide, by decide⟩ ⟨Nat.zero_le _, Nat.zero_le _⟩ dX12_service_203 ?_
    exact ag_vrep dX12_service_206
  · refine ag_loop2 (F := f_X12_service_L75 o0 k13) (L1 := fun v27 V28 => [some (.ref (bs + posM 10 o0)), some (.int x1), some (.int v4), some (.int v7), some (.int v10), some (.int v27), none]) (st1 := fun v27 V28 => []) (ws1 := fun v27 V28 => vwM cy bs V28) (fun n29 ih30 v27 V28 => ?_) (fun _ _ => rfl) FU 0 p12
    rw [f_X12_service_L75]
    refine ag_iload dX12_service_75 rfl ?_
    refine ag_bipush (v := 16) dX12_service_77 (by decide) ?_
    refine ag_icmp_ge (tgt := 139) dX12_service_79 (by decide) (fun h31 => ?_) (fun h31 => ?_)
    · refine ag_drop [5] (L' := [some (.ref (bs + posM 10 o0)), some (.int x1), some (.int v4), some (.int v7), some (.int v10), none, none]) rfl ?_
      exact hk14 V28
    · refine ag_iload dX12_service_82 rfl ?_
      refine ag_iconst (v := 2) dX12_service_84 (by decide) ?_
      refine ag_dv (j := 113) (L1 := fun _ => [some (.ref (bs + posM 10 o0)), some (.int x1), some (.int v4), some (.int v7), some (.int v10), some (.int v27), none]) (st1 := fun v32 => [.int (b2i v32)]) (ws1 := fun _ => vwM cy bs V28) (fun v32 => ?_) (fun k41 hk33 => ?_)
      · refine ag_istore (L' := [some (.ref (bs + posM 10 o0)), some (.int x1), some (.int v4), some (.int v7), some (.int v10), some (.int v27), some (.int (b2i v32))]) dX12_service_113 (by decide) rfl ?_
        refine ag_iload dX12_service_115 rfl ?_
        refine ag_jn1 (j := 133) (L1 := fun V34 => [some (.ref (bs + posM 10 o0)), some (.int x1), some (.int v4), some (.int v7), some (.int v10), some (.int v27), some (.int (b2i v32))]) (st1 := fun V34 => []) (ws1 := fun V34 => vwM cy bs V34) (fun V34 => ?_) (fun k35 hk36 => ?_)
        · refine ag_iincL (L' := fun v37 => [some (.ref (bs + posM 10 o0)), some (.int x1), some (.int v4), some (.int v7), some (.int v10), some (.int v37), some (.int (b2i v32))]) dX12_service_133 (by decide) rfl (by decide) (fun _ => rfl) (fun v37 => ?_)
          refine ag_goto (tgt := 75) dX12_service_136 (by decide) ?_
          refine ag_drop [6] (L' := [some (.ref (bs + posM 10 o0)), some (.int x1), some (.int v4), some (.int v7), some (.int v10), some (.int v37), none]) rfl ?_
          exact ih30 v37 V34
        · refine ag_bif_ne (tgt := 133) dX12_service_117 (by decide) (fun h38 => ?_) (fun h38 => ?_)
          · exact hk36 V28
          · refine ag_aload_n dX12_service_120 rfl ?_
            refine ag_aload_n dX12_service_121 rfl ?_
            refine gM_X12_t0 ho0 fl_X12_330 dX12_service_122 ?_
            refine ag_iload dX12_service_125 rfl ?_
            refine ag_isIp (c_X12_reg (V28 1080 o0 0) v27  rfl) vwM_D cs_X12_307 rfl rfl (Nat.le_of_ble_eq_true rfl) ⟨by decide, by decide⟩ ⟨Nat.zero_le _, Nat.zero_le _⟩ dX12_service_127 ?_
            refine ag_ltI (fun v39 => ?_)
            refine ag_bnd (fun p40 hp40 => ?_)
            refine ag_ivVe (c_X12_nothing o0 v39 ho0 hp40) vwM_D (vwM_at (kpM_10 _ ho0)) rfl cs_X12_246 rfl rfl (Nat.le_of_ble_eq_true rfl) ⟨by decide, by decide⟩ ⟨Nat.zero_le _, Nat.zero_le _⟩ dX12_service_130 ?_
            exact hk36 p40
      · refine ag_icmp_eq_v (tgt := 108) dX12_service_85 (by decide) (fun h42 => ?_) (fun h42 => ?_)
        · refine ag_iconst (v := 1) dX12_service_108 (by decide) ?_
          refine ag_goto (tgt := 113) dX12_service_109 (by decide) ?_
          exact hk33 true
        · refine ag_iload dX12_service_88 rfl ?_
          refine ag_iconst (v := 3) dX12_service_90 (by decide) ?_
          refine ag_icmp_eq_v (tgt := 108) dX12_service_91 (by decide) (fun h43 => ?_) (fun h43 => ?_)
          · refine ag_iconst (v := 1) dX12_service_108 (by decide) ?_
            refine ag_goto (tgt := 113) dX12_service_109 (by decide) ?_
            exact hk33 true
          · refine ag_iload dX12_service_94 rfl ?_
            refine ag_bipush (v := 8) dX12_service_96 (by decide) ?_
            refine ag_icmp_eq_v (tgt := 108) dX12_service_98 (by decide) (fun h44 => ?_) (fun h44 => ?_)
            · refine ag_iconst (v := 1) dX12_service_108 (by decide) ?_
              refine ag_goto (tgt := 113) dX12_service_109 (by decide) ?_
              exact hk33 true
            · refine ag_iload dX12_service_101 rfl ?_
              refine ag_bipush (v := 9) dX12_service_103 (by decide) ?_
              refine ag_icmp_ne_v (tgt := 112) dX12_service_105 (by decide) (fun h45 => ?_) (fun h45 => ?_)
              · refine ag_iconst (v := 0) dX12_service_112 (by decide) ?_
                exact hk33 false
              · refine ag_iconst (v := 1) dX12_service_108 (by decide) ?_
                refine ag_goto (tgt := 113) dX12_service_109 (by decide) ?_
                exact hk33 true
