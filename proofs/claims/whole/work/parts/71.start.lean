theorem al_istore_n {Γ : Cx} {l : Launch} {D : va_G} {cy : Nat → ClassId} {b Ln : Nat} {xs : Nat → Int32} {bs kb : Nat} {V1 V2 : HV} {pc : Nat} {L : List (Option Value)} {st : List Value} {k0 : Fin 4} {x : Int32} {L' : List (Option Value)} (hd : decode code pc = .ok (.istore_n k0, 1)) (hn : (k0 : Nat) < 4) (hl : set1 L (k0 : Nat) (.int x) = L') (k : AL Γ l D cy b Ln xs bs kb V1 V2 (pc + 1) L' st) : AL Γ l D cy b Ln xs bs kb V1 V2 pc L (.int x :: st) := by
  obtain ⟨p, e, s, m, args, below, meth, c⟩ := Γ
  intro hA hX hb hs ha H locs ls hL hP1 hP2 hS
  subst hl
  exact lv_istore_n hA.1 hA.2.1 hd rfl hL.has hn rfl (fun ls' hl' => k hA hX hb hs ha H locs ls' (LR.st1 hl') hP1 hP2 hS)
theorem al_astore_n {Γ : Cx} {l : Launch} {D : va_G} {cy : Nat → ClassId} {b Ln : Nat} {xs : Nat → Int32} {bs kb : Nat} {V1 V2 : HV} {pc : Nat} {L : List (Option Value)} {st : List Value} {k0 : Fin 4} {x : Nat} {L' : List (Option Value)} (hd : decode code pc = .ok (.astore_n k0, 1)) (hn : (k0 : Nat) < 4) (hl : set1 L (k0 : Nat) (.ref x) = L') (k : AL Γ l D cy b Ln xs bs kb V1 V2 (pc + 1) L' st) : AL Γ l D cy b Ln xs bs kb V1 V2 pc L (.ref x :: st) := by
  obtain ⟨p, e, s, m, args, below, meth, c⟩ := Γ
  intro hA hX hb hs ha H locs ls hL hP1 hP2 hS
  subst hl
  exact lv_astore_n hA.1 hA.2.1 hd rfl hL.has hn rfl (fun ls' hl' => k hA hX hb hs ha H locs ls' (LR.st1 hl') hP1 hP2 hS)
theorem arr_prim {args : Array Value} {s : State} {ty : FieldType} (h : (Cond.arrayClass ty).before args s = true) (hp : ∀ cA, va_RA s cA ty ↔ s.vm.findClass ("[" ++ ty.toString) = some cA) : ∃ cA : ClassId, ArrOfT s cA ty ∧ va_RA s cA ty := by
  obtain ⟨cA, kA, comp, h1, h2, h3⟩ := Cond.arrayClass_spec h
  exact ⟨cA, fun n z => ⟨fun k h => (by cases h), kA, h2, comp, h3⟩, (hp cA).mpr h1⟩
theorem arr_obj {args : Array Value} {s : State} {C : String} (h : (Cond.arrayOver (.object C)).before args s = true) : ∃ cA : ClassId, ArrOfT s cA (.object C) ∧ va_RA s cA (.object C) := by
  obtain ⟨comp, cA, kA, h1, -, h2, h3, h4⟩ := Cond.arrayOver_spec h
  exact ⟨cA, fun n z => ⟨fun k h => (by cases h), kA, h2, comp, h3⟩, kA, comp, h2, h3, h1, h4⟩
set_option maxRecDepth 100000 in
set_option maxHeartbeats 4000000 in
/-- the classes and array classes as the tables have them -/
theorem law_K {s : State} {args : Array Value} (hts : ∀ w ∈ lw_tbl, w.before args s = true) : ∃ (D : va_G) (cy : Nat → ClassId), va_K D vwCl (tyL cy) s := by
  have hg : ∀ w ∈ lw_g, w.before args s = true := fun w hw => hts w (lw_g_in hw)
  obtain ⟨c0, i0, hk0⟩ := u_known (C := RX0) (T := TX0) (N := 6) (n := 6) hg ingX0 (hg _ (lw_g_of (List.mem_append_right _ (List.mem_append_left _ (List.mem_of_getElem? (i := 54) rfl : _ ∈ tables_1_1))) rfl))
  obtain ⟨c1, i1, hk1⟩ := u_known (C := RX1) (T := TX1) (N := 12) (n := 12) hg ingX1 (hg _ (lw_g_of (List.mem_append_right _ (List.mem_append_left _ (List.mem_of_getElem? (i := 151) rfl : _ ∈ tables_1_1))) rfl))
  obtain ⟨c2, i2, hk2⟩ := u_known (C := RX3) (T := TX3) (N := 7) (n := 7) hg ingX3 (hg _ (lw_g_of (List.mem_append_right _ (List.mem_append_left _ (List.mem_of_getElem? (i := 211) rfl : _ ∈ tables_1_1))) rfl))
  obtain ⟨c3, i3, hk3⟩ := u_known (C := RX4) (T := TX4) (N := 9) (n := 9) hg ingX4 (hg _ (lw_g_of (List.mem_append_right _ (List.mem_append_left _ (List.mem_of_getElem? (i := 113) rfl : _ ∈ tables_1_1))) rfl))
  obtain ⟨c4, i4, hk4⟩ := u_known (C := RX5) (T := TX5) (N := 10) (n := 10) hg ingX5 (hg _ (lw_g_of (List.mem_append_right _ (List.mem_append_right _ (List.mem_append_left _ (List.mem_of_getElem? (i := 156) rfl : _ ∈ tables_1_2)))) rfl))
  obtain ⟨c5, i5, hk5⟩ := u_known (C := RX6) (T := TX6) (N := 3) (n := 3) hg ingX6 (hg _ (lw_g_of (List.mem_append_right _ (List.mem_append_left _ (List.mem_of_getElem? (i := 31) rfl : _ ∈ tables_1_1))) rfl))
  obtain ⟨c6, i6, hk6⟩ := u_known (C := RX8) (T := TX8) (N := 2) (n := 2) hg ingX8 (hg _ (lw_g_of (List.mem_append_right _ (List.mem_append_left _ (List.mem_of_getElem? (i := 98) rfl : _ ∈ tables_1_1))) rfl))
  obtain ⟨c7, i7, hk7⟩ := u_known (C := RX9) (T := TX9) (N := 19) (n := 19) hg ingX9 (hg _ (lw_g_of (List.mem_append_right _ (List.mem_append_left _ (List.mem_of_getElem? (i := 201) rfl : _ ∈ tables_1_1))) rfl))
  obtain ⟨c8, i8, hk8⟩ := u_known (C := RX10) (T := TX10) (N := 17) (n := 17) hg ingX10 (hg _ (lw_g_of (List.mem_append_right _ (List.mem_append_left _ (List.mem_of_getElem? (i := 25) rfl : _ ∈ tables_1_1))) rfl))
  obtain ⟨c9, i9, hk9⟩ := u_known (C := RX11) (T := TX11) (N := 2) (n := 2) hg ingX11 (hg _ (lw_g_of (List.mem_append_right _ (List.mem_append_left _ (List.mem_of_getElem? (i := 17) rfl : _ ∈ tables_1_1))) rfl))
  obtain ⟨c10, i10, hk10⟩ := u_known (C := RX12) (T := TX12) (N := 82) (n := 82) hg ingX12 (hg _ (lw_g_of (List.mem_append_right _ (List.mem_append_right _ (List.mem_append_right _ (List.mem_append_right _ (List.mem_append_right _ (List.mem_append_left _ (List.mem_of_getElem? (i := 174) rfl : _ ∈ tables_1_5))))))) rfl))
  obtain ⟨y0, ha0, hr0⟩ := arr_prim (hts (.arrayClass .byte) (lw_g_in ac_B)) (fun _ => Iff.rfl)
  obtain ⟨y1, ha1, hr1⟩ := arr_prim (hts (.arrayClass .int) (lw_g_in ac_I)) (fun _ => Iff.rfl)
  obtain ⟨y2, ha2, hr2⟩ := arr_prim (hts (.arrayClass .boolean) (lw_g_in ac_Z)) (fun _ => Iff.rfl)
  obtain ⟨y3, ha3, hr3⟩ := arr_obj (C := "SweptGrants$Cap") (hts _ (List.mem_append_right _ (List.mem_append_left _ (List.mem_of_getElem? (i := 207) rfl : _ ∈ tables_1_1))))
  obtain ⟨y4, ha4, hr4⟩ := arr_obj (C := "SweptGrants$Compartment") (hts _ (List.mem_append_right _ (List.mem_append_left _ (List.mem_of_getElem? (i := 50) rfl : _ ∈ tables_1_1))))
  obtain ⟨y5, ha5, hr5⟩ := arr_obj (C := "SweptGrants$Frame") (hts _ (List.mem_append_right _ (List.mem_append_left _ (List.mem_of_getElem? (i := 210) rfl : _ ∈ tables_1_1))))
  obtain ⟨y6, ha6, hr6⟩ := arr_obj (C := "SweptGrants$Task") (hts _ (List.mem_append_right _ (List.mem_append_left _ (List.mem_of_getElem? (i := 52) rfl : _ ∈ tables_1_1))))
  refine ⟨(fun k => [c0, c1, c2, c3, c4, c5, c6, c7, c8, c9, c10].getD k c0, fun k => [i0, i1, i2, i3, i4, i5, i6, i7, i8, i9, i10].getD k i0), fun k => [y0, y1, y2, y3, y4, y5, y6].getD k y0, fun k q hq => ?_, fun k q hq => ?_⟩
  · match k, hq with
    | 0, hq => cases hq; exact hk0
    | 1, hq => cases hq; exact hk1
    | 2, hq => cases hq; exact hk2
    | 3, hq => cases hq; exact hk3
    | 4, hq => cases hq; exact hk4
    | 5, hq => cases hq; exact hk5
    | 6, hq => cases hq; exact hk6
    | 7, hq => cases hq; exact hk7
    | 8, hq => cases hq; exact hk8
    | 9, hq => cases hq; exact hk9
    | 10, hq => cases hq; exact hk10
    | k + 11, hq => simp [vwCl] at hq
  · match k, hq with
    | 0, hq => cases hq; exact ⟨ha0, hr0⟩
    | 1, hq => cases hq; exact ⟨ha1, hr1⟩
    | 2, hq => cases hq; exact ⟨ha2, hr2⟩
    | 3, hq => cases hq; exact ⟨ha3, hr3⟩
    | 4, hq => cases hq; exact ⟨ha4, hr4⟩
    | 5, hq => cases hq; exact ⟨ha5, hr5⟩
    | 6, hq => cases hq; exact ⟨ha6, hr6⟩
    | k + 7, hq => simp [tyL] at hq
/-- cell(s, 0): the script's first int, or 0 -/
def cell0 (Ln : Nat) (xs : Nat → Int32) : Int32 := if 0 < Ln then xs 0 else 0
set_option maxRecDepth 100000 in
set_option maxHeartbeats 4000000 in
theorem c_cell {l : Launch} {b Ln : Nat} {xs : Nat → Int32} (hLn : Ln ≤ 385) : Met l yL_cell (Cond.code yL_cell cL_cell 2 (some .int) :: lw_g) { frames := 0, cells := 0, slots := 0, locals := 0 } (va_Pc [.ref b, .int 0] (fun U => va_X b Ln xs U U.heap)) (fun _ st o t => o = .returned (some (.int (cell0 Ln xs))) ∧ t.heap = st.heap) 0 0 (fun _ => False) := by
  refine va_MetF (cc := cL_cell) (maxL := 2) (ret := some .int) (by decide +kernel) rfl ?_
  intro p e s m args below meth c s₁ B hml hv
  obtain ⟨rfl, hX⟩ := hv
  have hx := B.exec
  have hb := B.bytes
  have hr := B.returns
  have hlocks := B.notSynchronized
  have hl := lv_entry ([.ref b, .int 0]) (n := 2) (Nat.le_of_ble_eq_true rfl)
  rw [lg_entry_eq]
  generalize (lg_sl ([.ref b, .int 0]) ++ List.replicate (2 - (lg_sl ([.ref b, .int 0])).length) Slot.unset).toArray = ls at hl ⊢
  have hl : lv_has ls 2 [(0, .ref b), (1, .int 0)] := hl
  have hbl : b < s.heap.size := by
    obtain ⟨scr, g1, -⟩ := hX
    exact (Array.getElem?_eq_some_iff.mp g1).1
  have hS : va_S (fun _ => False) s.heap s.heap [] := va_S.rf
  refine lv_iload_n hx hb dL_cell_0 rfl (lv_at hl 1 rfl) ?_
  refine lv_aload_n hx hb dL_cell_1 rfl (lv_at hl 0 rfl) ?_
  refine va_slen hx hb hX hbl id hS dL_cell_2 ?_
  by_cases h0 : 0 < Ln
  · refine lv_icmp_ge (tgt := 12) hx hb dL_cell_3 (by decide) (fun h => absurd h (nI_ge (a := 0) (b := Ln) h0 (by omega))) (fun _ => ?_)
    refine lv_aload_n hx hb dL_cell_6 rfl (lv_at hl 0 rfl) ?_
    refine lv_iload_n hx hb dL_cell_7 rfl (lv_at hl 1 rfl) ?_
    refine va_sld (i := 0) hx hb hX hbl id hS (vp_in_nI (n := 0) h0 (by omega)) dL_cell_8 ?_
    refine lv_goto (tgt := 13) hx hb dL_cell_9 (by decide) ?_
    exact W.iret hx hb hr (fun t ht hW => ⟨by simp [cell0, h0], ht⟩) (fun q hq => by cases hq) dL_cell_13
  · have hz : Int32.ofNat Ln ≤ 0 := by
      have h1 : Ln = 0 := by omega
      subst h1
      decide
    refine lv_icmp_ge (tgt := 12) hx hb dL_cell_3 (by decide) (fun _ => ?_) (fun h => absurd hz h)
    refine lv_iconst (v := 0) hx hb dL_cell_12 (by decide) ?_
    exact W.iret (v := 0) hx hb hr (fun t ht hW => ⟨by simp [cell0, h0], ht⟩) (fun q hq => by cases hq) dL_cell_13
theorem cs_L_9 : CSS RL 9 yL_cell cL_cell 2 (some .int) 2 := ⟨⟨lw_g_of (List.mem_append_right _ (List.mem_append_right _ (List.mem_append_right _ (List.mem_append_right _ (List.mem_append_right _ (List.mem_append_left _ (List.mem_of_getElem? (i := 170) rfl : _ ∈ tables_1_5))))))) rfl, lw_g_of (List.mem_append_right _ (List.mem_append_right _ (List.mem_append_right _ (List.mem_append_right _ (List.mem_append_right _ (List.mem_append_left _ (List.mem_of_getElem? (i := 171) rfl : _ ∈ tables_1_5))))))) rfl, lw_g_of (List.mem_append_right _ (List.mem_append_left _ (List.mem_of_getElem? (i := 0) rfl : _ ∈ tables_1_1))) rfl, lw_g_of (List.mem_append_right _ (List.mem_append_right _ (List.mem_append_right _ (List.mem_append_right _ (List.mem_append_right _ (List.mem_append_left _ (List.mem_of_getElem? (i := 172) rfl : _ ∈ tables_1_5))))))) rfl⟩, by decide, by decide, rfl⟩
/-- the law's call of cell(s, 0), while cells are being made -/
theorem an_cell {Γ : Cx} {l : Launch} {R : Room} {D : va_G} {cy : Nat → ClassId} {cc : ByteArray} {nL : Nat} {ret : Option FieldType} {Q : Cx → State → Prop} {a : Nat} {ini : Bool} {pc : Nat} {L : List (Option Value)} {rest : List Value} {n : Nat} {F : Nat → va_E} {cells slots b Ln : Nat} {xs : Nat → Int32} (hLn : Ln ≤ 385) (hX : va_X b Ln xs Γ.2.2.1 Γ.2.2.1.heap) (hbl : b < Γ.2.2.1.heap.size) (hba : b < a) (hrest : (rest.map fun v => v.category).sum ≤ 8) (hR : 1 ≤ R.frames ∧ 21 ≤ R.locals) (hcs : cells ≤ R.cells ∧ slots ≤ R.slots) (hd : decode cc pc = .ok (.invokestatic 9, 3)) (k : AN Γ l R D cy cc RL nL ret Q a ini (pc + 3) L (.int (cell0 Ln xs) :: rest) n F cells slots) : AN Γ l R D cy cc RL nL ret Q a ini pc L (.int 0 :: .ref b :: rest) n F cells slots := by
  obtain ⟨p, e, s, m, args, below, meth, c⟩ := Γ
  intro hA hO hI H locs ls hL hP hz hS
  have ht := hA.2.2.2.2.1
  have hX' : va_X b Ln xs s H := hX.kept (hS.2.1 b hbl (by dsimp only; omega))
  have hrun := va_runS (bytes := cL_cell) (maxL := 2) (ret := some .int) (H := H) (locs := locs) (cells := cells) (slots := slots) (g := F0 m pc ls (.int 0 :: .ref b :: rest)) (As := [.ref b, .int 0]) (rest := rest) ⟨hA.1, hA.2.1, hA.2.2.1, hA.2.2.2.1, ht⟩ (c_cell (l := l) (b := b) (xs := xs) hLn) ⟨callB_of 2 ht (good_code cs_L_9.1.2.2.2) rfl rfl rfl (ht _ cs_L_9.1.2.2.1) (ht _ cs_L_9.1.1) cs_L_9.2 ⟨hR.1, hR.2⟩, ht _ cs_L_9.1.2.1⟩ ⟨fun a' U g mk q => ⟨q.1, va_X.moved (u := U) (U := U.calling g mk a') (Vm.Alike.refl U.vm) q.2⟩, fun U hU hW => ⟨rfl, by show va_X b Ln xs U U.heap; rw [hU]; exact hX'.moved hW.alike⟩⟩ rfl rfl (by exact hL.1) rfl (lv_room hrest) hd ⟨hcs.1, hcs.2⟩ (meth := meth) (below := below) (e := e)
  intro T hT X
  obtain ⟨v, st₀, t, T', L1, h0, X', hL1, e1, e2, ⟨hv, hh⟩, stp⟩ := hrun T hT X
  have hv := Outcome.returned.inj hv
  subst hv
  have hH : T'.heap = H := by rw [e1, hh, h0]
  obtain ⟨t2, a1, b1⟩ := k hA hO hI T'.heap (locs ++ L1) ls hL (by rw [hH]; exact hP) (by rw [hH]; exact hz) (by
    rw [hH]
    exact ⟨hS.1, hS.2.1, fun q hq => by
      rcases List.mem_append.mp hq with h | h
      · exact hS.2.2 q h
      · exact absurd (hL1 q h) id⟩) T' rfl X'
  exact ⟨t2, stp t2 a1, b1⟩
/-- the reference's constructor is called: from there on the two worlds stand -/
theorem an_model {Γ : Cx} {l : Launch} {D : va_G} {cy : Nat → ClassId} {pc : Nat} {L : List (Option Value)} {bs kb b Ln : Nat} {xs : Nat → Int32} {x : Int32} {V1 V2 : HV} {maxL rF rL cnt sl index : Nat} {rest : List Value} {F : Nat → va_E} {cells slots : Nat} {bytes : ByteArray} {y : MethodName} {x0 : va_E}
    (hM : CNM l D cy y bytes maxL rF rL cnt sl [.int x] (bs + 737) x0 V2) (hF : F 737 = x0) (hV : ∀ H, va_P D vwCl (vwG 737 bs F) H → va_P D vwCl (vwC cy bs kb V1) H) (hw : CSI RL index y bytes maxL 1) (hrest : (rest.map fun v => v.category).sum ≤ 8) (hR : rF + 1 ≤ 12 ∧ 8 + (maxL + 11) + rL ≤ 472) (hcs : cells + cnt ≤ 600000 ∧ slots + sl ≤ 7302250) (hd : decode code pc = .ok (.invokespecial index, 3)) (hX : va_X b Ln xs Γ.2.2.1 Γ.2.2.1.heap) (hbl : b < Γ.2.2.1.heap.size) (hs : Γ.2.2.1.heap.size = bs) (ha : Γ.2.2.2.2.1 = #[Value.ref b])
    (k : AL Γ l D cy b Ln xs bs kb V1 V2 (pc + 3) L rest) : AN Γ l room_1 D cy code RL 4 ret (fun Γ => lw_Z Γ.2.2.2.2.2.1 #[Value.ref b] Γ.2.2.1) bs false pc L (.int x :: .ref (bs + 737) :: rest) (737 + 1) F cells slots := by
  obtain ⟨p, e, s, m, args, below, meth, c⟩ := Γ
  intro hA hO hI H locs ls hL hP hz hS
  have ht := hA.2.2.2.2.1
  have hN : ∀ w ∈ lw_n, va_Nw w s := hA.2.2.2.2.2.2.2.2
  have hP0 : va_P D vwCl (vwG 1 (bs + 737) (fun _ => x0)) H := vwG_P.mpr fun q hq => by
    have h0 : q = 0 := by omega
    subst h0
    have h1 := vwG_P.mp hP 737 (by omega)
    rw [hF] at h1
    exact h1
  have hP1 : va_P D vwCl (vwC cy bs kb V1) H := hV H (vwG_P.mpr fun q hq => vwG_P.mp hP q (by omega))
  have hpre : PreS s H (va_Pc (.ref (bs + 737) :: [.int x]) (fun U => (va_P D vwCl (vwG 1 (bs + 737) (fun _ => x0)) U.heap ∧ U.heap.size = bs + 737 + 1) ∧ va_K D vwCl (tyL cy) U ∧ (∀ w ∈ lw_n, va_Nw w U) ∧ lw_o U)) (.ref (bs + 737) :: [.int x]) :=
    ⟨fun a' U g mk q => by
      obtain ⟨q1, q2, q3, q4, q5⟩ := q
      exact ⟨q1, q2, va_K.moved (u := U) (U := U.calling g mk a') (Vm.Alike.refl U.vm) q3, lw_n_same (s := U) (U := U.calling g mk a') rfl q4, lw_o.moved (u := U) (U := U.calling g mk a') (Vm.Alike.refl U.vm) q5⟩,
     fun U hU hW => ⟨rfl, ⟨by rw [hU]; exact hP0, by rw [hU, hz]⟩, va_K.moved hW.alike hA.2.2.2.2.2.1, lw_n_warm hW hN, lw_o.moved hW.alike hO⟩⟩
  have hrun : va_Run p l e room_1 s m args below meth c H locs cells slots cnt sl (F0 m pc ls (.int x :: .ref (bs + 737) :: rest)) rest (fun st o t => o = .returned none ∧ va_P D vwCl (vwM cy (bs + 737) V2) t.heap ∧ va_F (fun q => bs + 737 ≤ q) st t) (fun q => bs + 737 ≤ q) := by
    rcases hw.1 with h1 | ⟨host, h1⟩
    · exact va_runI (bytes := bytes) (maxL := maxL) (As := [.int x]) (rest := rest) ⟨hA.1, hA.2.1, hA.2.2.1, hA.2.2.2.1, ht⟩ hM ⟨callB_of 1 ht (good_code hw.2.1.2.2) rfl rfl rfl (ht _ hw.2.1.2.1) (ht _ h1) hw.2.2.2 hR, hw.2.2.1, ht _ hw.2.1.1⟩ hpre rfl rfl (by exact hL.1) rfl (lv_room hrest) hd hcs
    · exact va_runIN (bytes := bytes) (maxL := maxL) (As := [.int x]) (rest := rest) ⟨hA.1, hA.2.1, hA.2.2.1, hA.2.2.2.1, ht⟩ hM ⟨va_cnB 1 ht (good_code hw.2.1.2.2) rfl rfl rfl (hN _ h1) (ht _ hw.2.1.2.1) hw.2.2.2 hR, hw.2.2.1, ht _ hw.2.1.1⟩ hpre rfl rfl (by exact hL.1) rfl (lv_room hrest) hd hcs
  intro T hT X
  obtain ⟨v, st₀, t, T', L1, h0, X', hL1, e1, e2, ⟨hv, hp1, hzf, hk⟩, stp⟩ := hrun T hT X
  have hv := Outcome.returned.inj hv
  subst hv
  rw [h0] at hzf hk
  have k3 : va_S (fun q => bs ≤ q) s.heap T'.heap (locs ++ L1) := by
    refine ⟨Nat.le_trans hS.1 (by rw [e1]; exact hzf), fun q h1 h2 => ?_, fun q hq => ?_⟩
    · rw [e1, hk q (by have := hS.1; omega) (by dsimp only at h2 ⊢; omega)]
      exact hS.2.1 q h1 h2
    · rcases List.mem_append.mp hq with h | h
      · exact hS.2.2 q h
      · exact Nat.le_trans (Nat.le_add_right _ _) (hL1 q h)
  have k4 : va_P D vwCl (vwC cy bs kb V1) T'.heap := by
    refine vw_keep (H := H) hP1 (fun q hq => ?_)
    rw [e1]
    exact hk _ (vw_lt hP1 hq) (by dsimp only; omega)
  have hgo : W p l e room_1 s m args below meth c T'.heap (locs ++ L1) (cells + cnt) (slots + sl) (lw_Z below #[Value.ref b] s) (F0 m (pc + 3) ls rest) :=
    W.widen (k := 600000) (n := 7302250) hcs.1 hcs.2 (k hA hX hbl hs ha T'.heap (locs ++ L1) ls hL k4 (by rw [e1]; exact hp1) k3)
  obtain ⟨t2, a1, b1⟩ := hgo T' rfl X'
  exact ⟨t2, stp t2 a1, b1⟩
set_option maxRecDepth 100000 in
set_option maxHeartbeats 4000000 in
theorem whole_of {RR : Nat → Nat → HV → HV → Prop} (hsim : SIM RR) {p : Program} {e : Env} {s : State} {m : MethodId} {below : List Frame} {meth : Method} {c : Code} (l : Launch) {b L : Nat} {xs : Nat → Int32} (hL : L ≤ 385) (C0 : lw_At p s m meth c b L xs) : W p l e room_1 s m #[Value.ref b] below meth c s.heap [] 0 0 (lw_Z below #[Value.ref b] s) (entryFrame m ([Value.ref b] : List Value).toArray 4) := by
  obtain ⟨hx, hb, hr, hml, hown, hts, hX, hbl, hlocks, hgv⟩ := id C0
  obtain ⟨D, cy, hK⟩ := law_K hts
  have hN : ∀ w ∈ lw_n, va_Nw w s := fun w hw => va_Nw.of (by have h2 := (List.mem_filter.mp hw).2; cases w <;> first | rfl | (cases h2)) (hts w (List.mem_filter.mp hw).1)
  have hO : lw_o s := ⟨va_AO.of (hts _ (List.mem_append_right _ (List.mem_append_left _ (List.mem_of_getElem? (i := 207) rfl : _ ∈ tables_1_1)))), va_AO.of (hts _ (List.mem_append_right _ (List.mem_append_left _ (List.mem_of_getElem? (i := 50) rfl : _ ∈ tables_1_1)))), va_AO.of (hts _ (List.mem_append_right _ (List.mem_append_left _ (List.mem_of_getElem? (i := 210) rfl : _ ∈ tables_1_1)))), va_AO.of (hts _ (List.mem_append_right _ (List.mem_append_left _ (List.mem_of_getElem? (i := 52) rfl : _ ∈ tables_1_1))))⟩
  have hA : AF (p, e, s, m, #[Value.ref b], below, meth, c) D (tyL cy) code RL 4 ret := ⟨hx, hb, hml, hown, fun w hw => hts w (lw_g_in hw), hK, hlocks, hr, hN⟩
  have hl := lv_entry ([.ref b]) (n := 4) (Nat.le_of_ble_eq_true rfl)
  rw [lg_entry_eq]
  generalize (lg_sl ([.ref b]) ++ List.replicate (4 - (lg_sl ([.ref b])).length) Slot.unset).toArray = ls at hl ⊢
  have hLR : LR ls 4 [some (.ref b), none, none, none] := by
    refine ⟨hl.1, hl.2.1, fun i v h => ?_⟩
    match i, h with
    | 0, h => cases h; exact lv_at hl 0 rfl
    | 1, h => cases h
    | 2, h => cases h
    | 3, h => cases h
    | i + 4, h => simp at h
  obtain ⟨W0, hW0, hR0⟩ := hsim.1 (cell0 L xs)
  have body : AN (p, e, s, m, #[Value.ref b], below, meth, c) l room_1 D cy code RL 4 ret (fun Γ => lw_Z Γ.2.2.2.2.2.1 #[Value.ref b] Γ.2.2.1) s.heap.size false 0 [some (.ref b), none, none, none] [] 0 (fun _ => capZ) 0 0 := by
    refine an_new tyX11 ingX11 tyX11_ok (ci := 9) (fs := [.null, .null]) rfl bl_X11 nl_L_7 ⟨by decide, by decide⟩ dL_law_0 ?_
    refine an_dup dL_law_3 rfl ?_
    refine an_aload_n dL_law_4 rfl ?_
    refine an_iconst (v := 0) dL_law_5 (by decide) ?_
    refine an_cell hL hX hbl hbl (Nat.le_of_ble_eq_true rfl) ⟨by decide, by decide⟩ ⟨by decide, by decide⟩ dL_law_6 ?_
    refine an_init (n_X11 (cell0 L xs) _) rfl ci_L_15 rfl rfl (Nat.le_of_ble_eq_true rfl) ⟨by decide, by decide⟩ ⟨by decide, by decide⟩ dL_law_9 ?_
    refine an_astore_n (L' := [some (.ref b), some (.ref (s.heap.size + 0)), none, none]) dL_law_12 (by decide) rfl ?_
    refine an_n (n' := 737) rfl ?_
    refine an_new tyX12 ingX12 tyX12_ok (ci := 10) (fs := [.int 0, .null, .null, .null, .null, .null, .null, .null, .null, .null, .null, .int 0, .null, .int 0, .int 0, .int 0, .int 0, .int 0, .int 0, .int 0, .null, .null, .null, .null, .null, .null, .null, .null, .null, .null, .null, .null, .null, .null, .null, .null, .null, .null, .null, .null, .null, .null, .null, .null, .null, .null, .null, .int 0, .int 0, .int 0, .int 0, .int 0, .int 0, .int 0, .int 0, .int 0, .null, .null, .null, .null, .int 0, .int 0, .int 0, .null, .int 0, .null, .int 0, .int 0, .null, .null, .null, .null, .null, .null, .null, .null, .null, .null, .null, .null, .int 0, .int 0]) rfl bl_X12 nl_L_18 ⟨by decide, by decide⟩ dL_law_13 ?_
    refine an_dup dL_law_16 rfl ?_
    refine an_aload_n dL_law_17 rfl ?_
    refine an_iconst (v := 0) dL_law_18 (by decide) ?_
    refine an_cell hL hX hbl hbl (Nat.le_of_ble_eq_true rfl) ⟨by decide, by decide⟩ ⟨by decide, by decide⟩ dL_law_19 ?_
    refine an_model (kb := kbN (cell0 L xs)) (V1 := V0C) (n_X12 (cell0 L xs) _ hW0) (by simp [va_up]) (fun H h => sg_P ?_) ci_L_20 (Nat.le_of_ble_eq_true rfl) ⟨by decide, by decide⟩ ⟨by decide, by decide⟩ dL_law_22 hX hbl rfl rfl ?_
    · rw [vwG_P] at h ⊢
      intro q hq
      have h1 := h q hq
      simp only [va_up, if_neg (show ¬ q = 737 by omega), if_neg (show ¬ q < 0 by omega), Nat.sub_zero] at h1
      exact h1
    · refine al_astore_n (L' := [some (.ref b), some (.ref (s.heap.size + posC 9 0)), some (.ref (s.heap.size + 737 + posM 10 0)), none]) dL_law_25 (by decide) rfl ?_
      refine al_iconst (v := nI 1) dL_law_26 (by decide) ?_
      refine al_istore_n (L' := [some (.ref b), some (.ref (s.heap.size + posC 9 0)), some (.ref (s.heap.size + 737 + posM 10 0)), some (.int (nI 1))]) dL_law_27 (by decide) rfl ?_
      exact law_loop hsim hL L 0 1 V0C W0 rfl (by omega) (by omega) hR0
  exact body hA hO (fun h => by cases h) s.heap [] ls hLR (vwG_P.mpr fun q hq => absurd hq (Nat.not_lt_zero q)) rfl ⟨Nat.le_refl _, fun _ _ _ => rfl, fun _ h => by cases h⟩
