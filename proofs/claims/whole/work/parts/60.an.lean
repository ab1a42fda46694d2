theorem ol_X11_3 : Cond.methodLink RX11 3 objectInit ∈ lw_g := lw_g_of (List.mem_append_right _ (List.mem_append_left _ (List.mem_of_getElem? (i := 21) rfl : _ ∈ tables_1_1))) rfl
theorem ol_X10_3 : Cond.methodLink RX10 3 objectInit ∈ lw_g := lw_g_of (List.mem_append_right _ (List.mem_append_left _ (List.mem_of_getElem? (i := 29) rfl : _ ∈ tables_1_1))) rfl
theorem ol_X6_3 : Cond.methodLink RX6 3 objectInit ∈ lw_g := lw_g_of (List.mem_append_right _ (List.mem_append_left _ (List.mem_of_getElem? (i := 35) rfl : _ ∈ tables_1_1))) rfl
theorem ol_X0_3 : Cond.methodLink RX0 3 objectInit ∈ lw_g := lw_g_of (List.mem_append_right _ (List.mem_append_left _ (List.mem_of_getElem? (i := 58) rfl : _ ∈ tables_1_1))) rfl
theorem ol_X8_3 : Cond.methodLink RX8 3 objectInit ∈ lw_g := lw_g_of (List.mem_append_right _ (List.mem_append_left _ (List.mem_of_getElem? (i := 102) rfl : _ ∈ tables_1_1))) rfl
theorem ol_X4_3 : Cond.methodLink RX4 3 objectInit ∈ lw_g := lw_g_of (List.mem_append_right _ (List.mem_append_left _ (List.mem_of_getElem? (i := 117) rfl : _ ∈ tables_1_1))) rfl
theorem ol_X1_3 : Cond.methodLink RX1 3 objectInit ∈ lw_g := lw_g_of (List.mem_append_right _ (List.mem_append_left _ (List.mem_of_getElem? (i := 155) rfl : _ ∈ tables_1_1))) rfl
theorem ol_X9_3 : Cond.methodLink RX9 3 objectInit ∈ lw_g := lw_g_of (List.mem_append_right _ (List.mem_append_left _ (List.mem_of_getElem? (i := 205) rfl : _ ∈ tables_1_1))) rfl
theorem ol_X3_1 : Cond.methodLink RX3 1 objectInit ∈ lw_g := lw_g_of (List.mem_append_right _ (List.mem_append_left _ (List.mem_of_getElem? (i := 215) rfl : _ ∈ tables_1_1))) rfl
theorem ol_X5_3 : Cond.methodLink RX5 3 objectInit ∈ lw_g := lw_g_of (List.mem_append_right _ (List.mem_append_right _ (List.mem_append_left _ (List.mem_of_getElem? (i := 160) rfl : _ ∈ tables_1_2)))) rfl
theorem ol_X12_1 : Cond.methodLink RX12 1 objectInit ∈ lw_g := lw_g_of (List.mem_append_right _ (List.mem_append_right _ (List.mem_append_right _ (List.mem_append_right _ (List.mem_append_right _ (List.mem_append_left _ (List.mem_of_getElem? (i := 178) rfl : _ ∈ tables_1_5))))))) rfl
theorem oi_inst : Cond.instanceMethod objectInit ∈ lw_g := lw_g_of (List.mem_append_right _ (List.mem_append_left _ (List.mem_of_getElem? (i := 22) rfl : _ ∈ tables_1_1))) rfl
theorem oi_code : Cond.code objectInit ⟨#[0xb1]⟩ 1 none ∈ lw_g := lw_g_of (List.mem_append_right _ (List.mem_append_left _ (List.mem_of_getElem? (i := 23) rfl : _ ∈ tables_1_1))) rfl
theorem ac_I : Cond.arrayClass .int ∈ lw_g := lw_g_of (List.mem_append_right _ (List.mem_append_left _ (List.mem_of_getElem? (i := 150) rfl : _ ∈ tables_1_1))) rfl
theorem ac_B : Cond.arrayClass .byte ∈ lw_g := lw_g_of (List.mem_append_right _ (List.mem_append_left _ (List.mem_of_getElem? (i := 48) rfl : _ ∈ tables_1_1))) rfl
theorem ac_Z : Cond.arrayClass .boolean ∈ lw_g := lw_g_of (List.mem_append_right _ (List.mem_append_right _ (List.mem_append_right _ (List.mem_append_right _ (List.mem_append_right _ (List.mem_append_right _ (List.mem_append_left _ (List.mem_of_getElem? (i := 199) rfl : _ ∈ tables_1_6)))))))) rfl
theorem nl_L_7 : Cond.classLink RL 7 RX11 ∈ lw_g ∧ Cond.instantiable RX11 2 ∈ lw_g ∧ Cond.initialized RX11 ∈ lw_g := ⟨lw_g_of (List.mem_append_right _ (List.mem_append_left _ (List.mem_of_getElem? (i := 16) rfl : _ ∈ tables_1_1))) rfl, lw_g_of (List.mem_append_right _ (List.mem_append_left _ (List.mem_of_getElem? (i := 17) rfl : _ ∈ tables_1_1))) rfl, lw_g_of (List.mem_append_right _ (List.mem_append_left _ (List.mem_of_getElem? (i := 1) rfl : _ ∈ tables_1_1))) rfl⟩
theorem nl_X11_9 : Cond.classLink RX11 9 RX10 ∈ lw_g ∧ Cond.instantiable RX10 17 ∈ lw_g ∧ Cond.initialized RX10 ∈ lw_g := ⟨lw_g_of (List.mem_append_right _ (List.mem_append_left _ (List.mem_of_getElem? (i := 24) rfl : _ ∈ tables_1_1))) rfl, lw_g_of (List.mem_append_right _ (List.mem_append_left _ (List.mem_of_getElem? (i := 25) rfl : _ ∈ tables_1_1))) rfl, lw_g_of (List.mem_append_right _ (List.mem_append_left _ (List.mem_of_getElem? (i := 2) rfl : _ ∈ tables_1_1))) rfl⟩
theorem nl_X10_9 : Cond.classLink RX10 9 RX6 ∈ lw_g ∧ Cond.instantiable RX6 3 ∈ lw_g ∧ Cond.initialized RX6 ∈ lw_g := ⟨lw_g_of (List.mem_append_right _ (List.mem_append_left _ (List.mem_of_getElem? (i := 30) rfl : _ ∈ tables_1_1))) rfl, lw_g_of (List.mem_append_right _ (List.mem_append_left _ (List.mem_of_getElem? (i := 31) rfl : _ ∈ tables_1_1))) rfl, lw_g_of (List.mem_append_right _ (List.mem_append_left _ (List.mem_of_getElem? (i := 3) rfl : _ ∈ tables_1_1))) rfl⟩
theorem nl_X10_23 : Cond.classLink RX10 23 RX1 ∈ lw_g ∧ Cond.instantiable RX1 12 ∈ lw_g ∧ Cond.initialized RX1 ∈ lw_g := ⟨lw_g_of (List.mem_append_right _ (List.mem_append_left _ (List.mem_of_getElem? (i := 49) rfl : _ ∈ tables_1_1))) rfl, lw_g_of (List.mem_append_right _ (List.mem_append_left _ (List.mem_of_getElem? (i := 151) rfl : _ ∈ tables_1_1))) rfl, lw_g_of (List.mem_append_right _ (List.mem_append_left _ (List.mem_of_getElem? (i := 7) rfl : _ ∈ tables_1_1))) rfl⟩
theorem nl_X10_29 : Cond.classLink RX10 29 RX9 ∈ lw_g ∧ Cond.instantiable RX9 19 ∈ lw_g ∧ Cond.initialized RX9 ∈ lw_g := ⟨lw_g_of (List.mem_append_right _ (List.mem_append_left _ (List.mem_of_getElem? (i := 51) rfl : _ ∈ tables_1_1))) rfl, lw_g_of (List.mem_append_right _ (List.mem_append_left _ (List.mem_of_getElem? (i := 201) rfl : _ ∈ tables_1_1))) rfl, lw_g_of (List.mem_append_right _ (List.mem_append_left _ (List.mem_of_getElem? (i := 8) rfl : _ ∈ tables_1_1))) rfl⟩
theorem nl_X10_35 : Cond.classLink RX10 35 RX0 ∈ lw_g ∧ Cond.instantiable RX0 6 ∈ lw_g ∧ Cond.initialized RX0 ∈ lw_g := ⟨lw_g_of (List.mem_append_right _ (List.mem_append_left _ (List.mem_of_getElem? (i := 53) rfl : _ ∈ tables_1_1))) rfl, lw_g_of (List.mem_append_right _ (List.mem_append_left _ (List.mem_of_getElem? (i := 54) rfl : _ ∈ tables_1_1))) rfl, lw_g_of (List.mem_append_right _ (List.mem_append_left _ (List.mem_of_getElem? (i := 4) rfl : _ ∈ tables_1_1))) rfl⟩
theorem nl_X10_46 : Cond.classLink RX10 46 RX8 ∈ lw_g ∧ Cond.instantiable RX8 2 ∈ lw_g ∧ Cond.initialized RX8 ∈ lw_g := ⟨lw_g_of (List.mem_append_right _ (List.mem_append_left _ (List.mem_of_getElem? (i := 97) rfl : _ ∈ tables_1_1))) rfl, lw_g_of (List.mem_append_right _ (List.mem_append_left _ (List.mem_of_getElem? (i := 98) rfl : _ ∈ tables_1_1))) rfl, lw_g_of (List.mem_append_right _ (List.mem_append_left _ (List.mem_of_getElem? (i := 5) rfl : _ ∈ tables_1_1))) rfl⟩
theorem nl_X10_53 : Cond.classLink RX10 53 RX4 ∈ lw_g ∧ Cond.instantiable RX4 9 ∈ lw_g ∧ Cond.initialized RX4 ∈ lw_g := ⟨lw_g_of (List.mem_append_right _ (List.mem_append_left _ (List.mem_of_getElem? (i := 112) rfl : _ ∈ tables_1_1))) rfl, lw_g_of (List.mem_append_right _ (List.mem_append_left _ (List.mem_of_getElem? (i := 113) rfl : _ ∈ tables_1_1))) rfl, lw_g_of (List.mem_append_right _ (List.mem_append_left _ (List.mem_of_getElem? (i := 6) rfl : _ ∈ tables_1_1))) rfl⟩
theorem nl_X9_11 : Cond.classLink RX9 11 RX0 ∈ lw_g ∧ Cond.instantiable RX0 6 ∈ lw_g ∧ Cond.initialized RX0 ∈ lw_g := ⟨lw_g_of (List.mem_append_right _ (List.mem_append_left _ (List.mem_of_getElem? (i := 206) rfl : _ ∈ tables_1_1))) rfl, lw_g_of (List.mem_append_right _ (List.mem_append_left _ (List.mem_of_getElem? (i := 54) rfl : _ ∈ tables_1_1))) rfl, lw_g_of (List.mem_append_right _ (List.mem_append_left _ (List.mem_of_getElem? (i := 4) rfl : _ ∈ tables_1_1))) rfl⟩
theorem nl_X9_22 : Cond.classLink RX9 22 RX3 ∈ lw_g ∧ Cond.instantiable RX3 7 ∈ lw_g ∧ Cond.initialized RX3 ∈ lw_g := ⟨lw_g_of (List.mem_append_right _ (List.mem_append_left _ (List.mem_of_getElem? (i := 209) rfl : _ ∈ tables_1_1))) rfl, lw_g_of (List.mem_append_right _ (List.mem_append_left _ (List.mem_of_getElem? (i := 211) rfl : _ ∈ tables_1_1))) rfl, lw_g_of (List.mem_append_right _ (List.mem_append_left _ (List.mem_of_getElem? (i := 9) rfl : _ ∈ tables_1_1))) rfl⟩
theorem nl_X3_7 : Cond.classLink RX3 7 RX0 ∈ lw_g ∧ Cond.instantiable RX0 6 ∈ lw_g ∧ Cond.initialized RX0 ∈ lw_g := ⟨lw_g_of (List.mem_append_right _ (List.mem_append_left _ (List.mem_of_getElem? (i := 216) rfl : _ ∈ tables_1_1))) rfl, lw_g_of (List.mem_append_right _ (List.mem_append_left _ (List.mem_of_getElem? (i := 54) rfl : _ ∈ tables_1_1))) rfl, lw_g_of (List.mem_append_right _ (List.mem_append_left _ (List.mem_of_getElem? (i := 4) rfl : _ ∈ tables_1_1))) rfl⟩
theorem nl_X11_18 : Cond.classLink RX11 18 RX5 ∈ lw_g ∧ Cond.instantiable RX5 10 ∈ lw_g ∧ Cond.initialized RX5 ∈ lw_g := ⟨lw_g_of (List.mem_append_right _ (List.mem_append_right _ (List.mem_append_left _ (List.mem_of_getElem? (i := 155) rfl : _ ∈ tables_1_2)))) rfl, lw_g_of (List.mem_append_right _ (List.mem_append_right _ (List.mem_append_left _ (List.mem_of_getElem? (i := 156) rfl : _ ∈ tables_1_2)))) rfl, lw_g_of (List.mem_append_right _ (List.mem_append_left _ (List.mem_of_getElem? (i := 10) rfl : _ ∈ tables_1_1))) rfl⟩
theorem nl_L_18 : Cond.classLink RL 18 RX12 ∈ lw_g ∧ Cond.instantiable RX12 82 ∈ lw_g ∧ Cond.initialized RX12 ∈ lw_g := ⟨lw_g_of (List.mem_append_right _ (List.mem_append_right _ (List.mem_append_right _ (List.mem_append_right _ (List.mem_append_right _ (List.mem_append_left _ (List.mem_of_getElem? (i := 173) rfl : _ ∈ tables_1_5))))))) rfl, lw_g_of (List.mem_append_right _ (List.mem_append_right _ (List.mem_append_right _ (List.mem_append_right _ (List.mem_append_right _ (List.mem_append_left _ (List.mem_of_getElem? (i := 174) rfl : _ ∈ tables_1_5))))))) rfl, lw_g_of (List.mem_append_right _ (List.mem_append_left _ (List.mem_of_getElem? (i := 11) rfl : _ ∈ tables_1_1))) rfl⟩
def lw_o (U : State) : Prop := va_AO "SweptGrants$Cap" U ∧ va_AO "SweptGrants$Compartment" U ∧ va_AO "SweptGrants$Frame" U ∧ va_AO "SweptGrants$Task" U
theorem lw_o.moved {u U : State} (hvm : u.vm.Alike U.vm) (h : lw_o u) : lw_o U := ⟨h.1.moved hvm, h.2.1.moved hvm, h.2.2.1.moved hvm, h.2.2.2.moved hvm⟩
def AN (Γ : Cx) (l : Launch) (R : Room) (D : va_G) (cy : Nat → ClassId) (cc : ByteArray) (own : String) (nL : Nat) (ret : Option FieldType) (Q : Cx → State → Prop) (a : Nat) (ini : Bool) (pc : Nat) (L : List (Option Value)) (st : List Value) (n : Nat) (F : Nat → va_E) (cells slots : Nat) : Prop := match Γ with
  | (p, e, s, m, args, below, meth, c) => AF (p, e, s, m, args, below, meth, c) D (tyL cy) cc own nL ret → lw_o s → (ini = true → meth.name = "<init>") → ∀ (H : Heap) (locs : List Loc) (ls : Array Slot), LR ls nL L → va_P D vwCl (vwG n a F) H → H.size = a + n → va_S (fun q => a ≤ q) s.heap H locs → W p l e R s m args below meth c H locs cells slots (Q (p, e, s, m, args, below, meth, c)) (F0 m pc ls st)
theorem vwG_P {D : va_G} {n a : Nat} {F : Nat → va_E} {H : Heap} : va_P D vwCl (vwG n a F) H ↔ ∀ p, p < n → va_at D vwCl (a + p, F p) H := by
  constructor
  · intro h p hp
    exact h p _ (vwG_at hp)
  · intro h k q hk
    have h1 := vwG_get hk
    rw [h1.2]
    exact h k h1.1
theorem vwG_congr {n a : Nat} {F G : Nat → va_E} (h : ∀ p, p < n → F p = G p) : vwG n a F = vwG n a G := by
  unfold vwG
  apply List.map_congr_left
  intro p hp
  rw [h p (List.mem_range.mp hp)]
section ANS
variable {Γ : Cx} {l : Launch} {R : Room} {D : va_G} {cy : Nat → ClassId} {cc : ByteArray} {own : String} {nL : Nat} {ret : Option FieldType} {Q : Cx → State → Prop} {a : Nat} {ini : Bool} {pc : Nat} {L : List (Option Value)} {st : List Value} {n : Nat} {F : Nat → va_E} {cells slots : Nat}
theorem an_iconst {x : Int} {v : Int32} (hd : decode cc pc = .ok (.iconst x, 1)) (hv : Int32.ofInt x = v) (k : AN Γ l R D cy cc own nL ret Q a ini (pc + 1) L (.int v :: st) n F cells slots) : AN Γ l R D cy cc own nL ret Q a ini pc L st n F cells slots := by
  obtain ⟨p, e, s, m, args, below, meth, c⟩ := Γ
  intro hA hO hI H locs ls hL hP hz hS
  exact lv_iconst hA.1 hA.2.1 hd hv (k hA hO hI H locs ls hL hP hz hS)
theorem an_bipush {x : Int} {v : Int32} (hd : decode cc pc = .ok (.bipush x, 2)) (hv : (Int8.ofInt x).toInt32 = v) (k : AN Γ l R D cy cc own nL ret Q a ini (pc + 2) L (.int v :: st) n F cells slots) : AN Γ l R D cy cc own nL ret Q a ini pc L st n F cells slots := by
  obtain ⟨p, e, s, m, args, below, meth, c⟩ := Γ
  intro hA hO hI H locs ls hL hP hz hS
  exact lv_bipush hA.1 hA.2.1 hd hv (k hA hO hI H locs ls hL hP hz hS)
theorem an_sipush {x : Int} {v : Int32} (hd : decode cc pc = .ok (.sipush x, 3)) (hv : (Int16.ofInt x).toInt32 = v) (k : AN Γ l R D cy cc own nL ret Q a ini (pc + 3) L (.int v :: st) n F cells slots) : AN Γ l R D cy cc own nL ret Q a ini pc L st n F cells slots := by
  obtain ⟨p, e, s, m, args, below, meth, c⟩ := Γ
  intro hA hO hI H locs ls hL hP hz hS
  exact lv_sipush hA.1 hA.2.1 hd hv (k hA hO hI H locs ls hL hP hz hS)
theorem an_ldc {index : Nat} {v : Int32} (hw : Jvm.Cond.constant own index v ∈ lw_g) (hd : decode cc pc = .ok (.ldc index, 2)) (k : AN Γ l R D cy cc own nL ret Q a ini (pc + 2) L (.int v :: st) n F cells slots) : AN Γ l R D cy cc own nL ret Q a ini pc L st n F cells slots := by
  obtain ⟨p, e, s, m, args, below, meth, c⟩ := Γ
  intro hA hO hI H locs ls hL hP hz hS
  exact lv_ldc hA.1 hA.2.1 hA.2.2.2.1 (hA.2.2.2.2.1 _ hw) hd (k hA hO hI H locs ls hL hP hz hS)
theorem an_ldcw {index : Nat} {v : Int32} (hw : Jvm.Cond.constant own index v ∈ lw_g) (hd : decode cc pc = .ok (.ldc_w index, 3)) (k : AN Γ l R D cy cc own nL ret Q a ini (pc + 3) L (.int v :: st) n F cells slots) : AN Γ l R D cy cc own nL ret Q a ini pc L st n F cells slots := by
  obtain ⟨p, e, s, m, args, below, meth, c⟩ := Γ
  intro hA hO hI H locs ls hL hP hz hS
  exact lv_ldcw hA.1 hA.2.1 hA.2.2.2.1 (hA.2.2.2.2.1 _ hw) hd (k hA hO hI H locs ls hL hP hz hS)
theorem an_iload_n {k0 : Fin 4} {x : Int32} (hd : decode cc pc = .ok (.iload_n k0, 1)) (hl : L[(k0 : Nat)]? = some (some (.int x))) (k : AN Γ l R D cy cc own nL ret Q a ini (pc + 1) L (.int x :: st) n F cells slots) : AN Γ l R D cy cc own nL ret Q a ini pc L st n F cells slots := by
  obtain ⟨p, e, s, m, args, below, meth, c⟩ := Γ
  intro hA hO hI H locs ls hL hP hz hS
  exact lv_iload_n hA.1 hA.2.1 hd rfl (hL.2.2 _ _ hl) (k hA hO hI H locs ls hL hP hz hS)
theorem an_istore_n {k0 : Fin 4} {x : Int32} {L' : List (Option Value)} (hd : decode cc pc = .ok (.istore_n k0, 1)) (hn : (k0 : Nat) < nL) (hl : set1 L (k0 : Nat) (.int x) = L') (k : AN Γ l R D cy cc own nL ret Q a ini (pc + 1) L' st n F cells slots) : AN Γ l R D cy cc own nL ret Q a ini pc L (.int x :: st) n F cells slots := by
  obtain ⟨p, e, s, m, args, below, meth, c⟩ := Γ
  intro hA hO hI H locs ls hL hP hz hS
  subst hl
  exact lv_istore_n hA.1 hA.2.1 hd rfl hL.has hn rfl (fun ls' hl' => k hA hO hI H locs ls' (LR.st1 hl') hP hz hS)
theorem an_aload_n {k0 : Fin 4} {x : Nat} (hd : decode cc pc = .ok (.aload_n k0, 1)) (hl : L[(k0 : Nat)]? = some (some (.ref x))) (k : AN Γ l R D cy cc own nL ret Q a ini (pc + 1) L (.ref x :: st) n F cells slots) : AN Γ l R D cy cc own nL ret Q a ini pc L st n F cells slots := by
  obtain ⟨p, e, s, m, args, below, meth, c⟩ := Γ
  intro hA hO hI H locs ls hL hP hz hS
  exact lv_aload_n hA.1 hA.2.1 hd rfl (hL.2.2 _ _ hl) (k hA hO hI H locs ls hL hP hz hS)
theorem an_astore_n {k0 : Fin 4} {x : Nat} {L' : List (Option Value)} (hd : decode cc pc = .ok (.astore_n k0, 1)) (hn : (k0 : Nat) < nL) (hl : set1 L (k0 : Nat) (.ref x) = L') (k : AN Γ l R D cy cc own nL ret Q a ini (pc + 1) L' st n F cells slots) : AN Γ l R D cy cc own nL ret Q a ini pc L (.ref x :: st) n F cells slots := by
  obtain ⟨p, e, s, m, args, below, meth, c⟩ := Γ
  intro hA hO hI H locs ls hL hP hz hS
  subst hl
  exact lv_astore_n hA.1 hA.2.1 hd rfl hL.has hn rfl (fun ls' hl' => k hA hO hI H locs ls' (LR.st1 hl') hP hz hS)
theorem an_iinc {i : Nat} {y : Int} {x v : Int32} {L' : List (Option Value)} (hd : decode cc pc = .ok (.iinc i y, 3)) (hx : L[i]? = some (some (.int x))) (hv : x + Int32.ofInt y = v) (hn : i < nL) (hl : set1 L i (.int v) = L') (k : AN Γ l R D cy cc own nL ret Q a ini (pc + 3) L' st n F cells slots) : AN Γ l R D cy cc own nL ret Q a ini pc L st n F cells slots := by
  obtain ⟨p, e, s, m, args, below, meth, c⟩ := Γ
  intro hA hO hI H locs ls hL hP hz hS
  subst hl
  obtain ⟨k1, hk1⟩ := asc_idx hx
  exact lv_iinc hA.1 hA.2.1 hd hL.has hk1 hv hn rfl (fun ls' hl' => k hA hO hI H locs ls' (LR.st1 hl') hP hz hS)
theorem an_imul {x y : Int32} (hd : decode cc pc = .ok (.imul, 1)) (k : AN Γ l R D cy cc own nL ret Q a ini (pc + 1) L (.int (x * y) :: st) n F cells slots) : AN Γ l R D cy cc own nL ret Q a ini pc L (.int y :: .int x :: st) n F cells slots := by
  obtain ⟨p, e, s, m, args, below, meth, c⟩ := Γ
  intro hA hO hI H locs ls hL hP hz hS
  exact lv_imul hA.1 hA.2.1 hd (k hA hO hI H locs ls hL hP hz hS)
theorem an_idiv {x y : Int32} (hd : decode cc pc = .ok (.idiv, 1)) (hne : ¬ y = 0) (k : AN Γ l R D cy cc own nL ret Q a ini (pc + 1) L (.int (x / y) :: st) n F cells slots) : AN Γ l R D cy cc own nL ret Q a ini pc L (.int y :: .int x :: st) n F cells slots := by
  obtain ⟨p, e, s, m, args, below, meth, c⟩ := Γ
  intro hA hO hI H locs ls hL hP hz hS
  exact lv_idiv hA.1 hA.2.1 hd hne (k hA hO hI H locs ls hL hP hz hS)
theorem an_dup {va : Value} (hd : decode cc pc = .ok (.dup, 1)) (hva : va.category = 1) (k : AN Γ l R D cy cc own nL ret Q a ini (pc + 1) L (va :: va :: st) n F cells slots) : AN Γ l R D cy cc own nL ret Q a ini pc L (va :: st) n F cells slots := by
  obtain ⟨p, e, s, m, args, below, meth, c⟩ := Γ
  intro hA hO hI H locs ls hL hP hz hS
  exact lv_dup hA.1 hA.2.1 hd hva (k hA hO hI H locs ls hL hP hz hS)
theorem an_goto {off : Int} {tgt : Nat} (hd : decode cc pc = .ok (.goto off, 3)) (ht : (pc : Int) + off = (tgt : Int)) (k : AN Γ l R D cy cc own nL ret Q a ini tgt L st n F cells slots) : AN Γ l R D cy cc own nL ret Q a ini pc L st n F cells slots := by
  obtain ⟨p, e, s, m, args, below, meth, c⟩ := Γ
  intro hA hO hI H locs ls hL hP hz hS
  exact lv_goto hA.1 hA.2.1 hd ht (k hA hO hI H locs ls hL hP hz hS)
theorem an_icmp_ge {x y : Int32} {off : Int} {tgt : Nat} (hd : decode cc pc = .ok (.if_icmp .ge off, 3)) (ht : (pc : Int) + off = (tgt : Int)) (kt : y ≤ x → AN Γ l R D cy cc own nL ret Q a ini tgt L st n F cells slots) (kf : ¬ (y ≤ x) → AN Γ l R D cy cc own nL ret Q a ini (pc + 3) L st n F cells slots) : AN Γ l R D cy cc own nL ret Q a ini pc L (.int y :: .int x :: st) n F cells slots := by
  obtain ⟨p, e, s, m, args, below, meth, c⟩ := Γ
  intro hA hO hI H locs ls hL hP hz hS
  exact lv_icmp_ge hA.1 hA.2.1 hd ht (fun h => kt h hA hO hI H locs ls hL hP hz hS) (fun h => kf h hA hO hI H locs ls hL hP hz hS)
theorem an_icmp_lt {x y : Int32} {off : Int} {tgt : Nat} (hd : decode cc pc = .ok (.if_icmp .lt off, 3)) (ht : (pc : Int) + off = (tgt : Int)) (kt : x < y → AN Γ l R D cy cc own nL ret Q a ini tgt L st n F cells slots) (kf : ¬ (x < y) → AN Γ l R D cy cc own nL ret Q a ini (pc + 3) L st n F cells slots) : AN Γ l R D cy cc own nL ret Q a ini pc L (.int y :: .int x :: st) n F cells slots := by
  obtain ⟨p, e, s, m, args, below, meth, c⟩ := Γ
  intro hA hO hI H locs ls hL hP hz hS
  exact lv_icmp_lt hA.1 hA.2.1 hd ht (fun h => kt h hA hO hI H locs ls hL hP hz hS) (fun h => kf h hA hO hI H locs ls hL hP hz hS)
theorem an_icmp_gt {x y : Int32} {off : Int} {tgt : Nat} (hd : decode cc pc = .ok (.if_icmp .gt off, 3)) (ht : (pc : Int) + off = (tgt : Int)) (kt : y < x → AN Γ l R D cy cc own nL ret Q a ini tgt L st n F cells slots) (kf : ¬ (y < x) → AN Γ l R D cy cc own nL ret Q a ini (pc + 3) L st n F cells slots) : AN Γ l R D cy cc own nL ret Q a ini pc L (.int y :: .int x :: st) n F cells slots := by
  obtain ⟨p, e, s, m, args, below, meth, c⟩ := Γ
  intro hA hO hI H locs ls hL hP hz hS
  exact lv_icmp_gt hA.1 hA.2.1 hd ht (fun h => kt h hA hO hI H locs ls hL hP hz hS) (fun h => kf h hA hO hI H locs ls hL hP hz hS)
theorem an_F {G : Nat → va_E} (h : ∀ p, p < n → F p = G p) (k : AN Γ l R D cy cc own nL ret Q a ini pc L st n G cells slots) : AN Γ l R D cy cc own nL ret Q a ini pc L st n F cells slots := by
  obtain ⟨p, e, s, m, args, below, meth, c⟩ := Γ
  intro hA hO hI H locs ls hL hP hz hS
  exact k hA hO hI H locs ls hL (by rw [← vwG_congr h]; exact hP) hz hS
theorem an_n {n' : Nat} (h : n = n') (k : AN Γ l R D cy cc own nL ret Q a ini pc L st n' F cells slots) : AN Γ l R D cy cc own nL ret Q a ini pc L st n F cells slots := h ▸ k
theorem an_obj {x : Nat} {idx : Nat} (hl : Cond.methodLink own idx objectInit ∈ lw_g) (hrest : (st.map fun v => v.category).sum ≤ 8) (hR : 1 ≤ R.frames ∧ 20 ≤ R.locals) (hd : decode cc pc = .ok (.invokespecial idx, 3)) (k : AN Γ l R D cy cc own nL ret Q a ini (pc + 3) L st n F cells slots) : AN Γ l R D cy cc own nL ret Q a ini pc L (.ref x :: st) n F cells slots := by
  obtain ⟨p, e, s, m, args, below, meth, c⟩ := Γ
  intro hA hO hI H locs ls hL hP hz hS
  exact W.objInit hA.1 hA.2.1 hA.2.2.2.1 (hA.2.2.2.2.1 _ hl) (hA.2.2.2.2.1 _ oi_inst) (hA.2.2.2.2.1 _ oi_code) rfl (by rw [hA.2.2.1]; exact hL.1) rfl hd hR.1 (Nat.le_trans (Nat.add_le_add_right (lv_room hrest) 12) hR.2) (k hA hO hI H locs ls hL hP hz hS)
theorem an_new {ci N index : Nat} {C : String} {T : u_T} {fs : List Value} (ty : Nat → FieldType) (hin : ∀ w ∈ u_ws C T N, w ∈ lw_g) (hty : ∀ k, k < N → parseFieldDescriptor (T k).2.2.1 = some (ty k)) (hc : vwCl[ci]? = some (C, T, N)) (hfs : ∀ j, j < N → defaultValue (ty j) = vp_V fs j) (hw : Cond.classLink own index C ∈ lw_g ∧ Cond.instantiable C N ∈ lw_g ∧ Cond.initialized C ∈ lw_g) (hR : cells + 1 ≤ R.cells ∧ slots + N ≤ R.slots) (hd : decode cc pc = .ok (.new index, 3)) (k : AN Γ l R D cy cc own nL ret Q a ini (pc + 3) L (.ref (a + n) :: st) (n + 1) (va_up F n (.inr (ci, fs))) (cells + 1) (slots + N)) : AN Γ l R D cy cc own nL ret Q a ini pc L st n F cells slots := by
  obtain ⟨p, e, s, m, args, below, meth, c⟩ := Γ
  intro hA hO hI H locs ls hL hP hz hS
  have hKn := hA.2.2.2.2.2.1.1 ci _ hc
  refine W.newcK hA.1 hA.2.1 hA.2.2.2.1 (hA.2.2.2.2.1 _ hw.1) (hA.2.2.2.2.1 _ hw.2.1) (hA.2.2.2.2.1 _ hw.2.2) rfl hd hR.1 hR.2 hKn.2.1 hz fun H1 kC hkC e1 z1 o1 => ?_
  refine k hA hO hI H1 locs ls hL (vwG_P.mpr fun q hq => ?_) (by rw [z1]; rfl) ⟨Nat.le_trans hS.1 (by omega), fun q h1 h2 => ?_, hS.2.2⟩
  · by_cases hqn : q = n
    · subst hqn
      rw [show va_up F q (.inr (ci, fs)) q = (.inr (ci, fs) : va_E) by simp [va_up]]
      exact ⟨_, hc, (u_born ty hA.2.2.2.2.1 hin hKn hkC e1 hty).to hfs⟩
    · rw [show va_up F n (.inr (ci, fs)) q = F q by simp [va_up, hqn]]
      exact (vwG_P.mp hP q (by omega)).kept (o1 _ (by omega))
  · rw [o1 q (by have := hS.1; omega)]
    exact hS.2.1 q h1 h2
theorem an_push {s : State} {H H1 : Heap} {locs : List Loc} {x : va_E} (hP : va_P D vwCl (vwG n a F) H) (hz : H.size = a + n) (hS : va_S (fun q => a ≤ q) s.heap H locs) (e1 : va_at D vwCl (a + n, x) H1) (z1 : H1.size = a + n + 1) (o1 : ∀ q, q < a + n → H1[q]? = H[q]?) : va_P D vwCl (vwG (n + 1) a (va_up F n x)) H1 ∧ H1.size = a + (n + 1) ∧ va_S (fun q => a ≤ q) s.heap H1 locs := by
  refine ⟨vwG_P.mpr fun q hq => ?_, by rw [z1]; rfl, ⟨Nat.le_trans hS.1 (by omega), fun q h1 h2 => ?_, hS.2.2⟩⟩
  · by_cases hqn : q = n
    · subst hqn
      rw [show va_up F q x q = x by simp [va_up]]
      exact e1
    · rw [show va_up F n x q = F q by simp [va_up, hqn]]
      exact (vwG_P.mp hP q (by omega)).kept (o1 _ (by omega))
  · rw [o1 q (by have := hS.1; omega)]
    exact hS.2.1 q h1 h2
theorem an_newaI {x : Int32} {N : Nat} (hn : ¬ x < 0) (hN : x.toNatClampNeg = N) (hb : N ≤ 100000) (hR : cells + 1 ≤ R.cells ∧ slots + N ≤ R.slots) (hd : decode cc pc = .ok (.newarray .int, 2)) (k : AN Γ l R D cy cc own nL ret Q a ini (pc + 2) L (.ref (a + n) :: st) (n + 1) (va_up F n (.inl (cy 1, N, .inl (fun _ => 0)))) (cells + 1) (slots + N)) : AN Γ l R D cy cc own nL ret Q a ini pc L (.int x :: st) n F cells slots := by
  obtain ⟨p, e, s, m, args, below, meth, c⟩ := Γ
  intro hA hO hI H locs ls hL hP hz hS
  refine va_newaK hA.1 hA.2.1 (atype := .int) (hA.2.2.2.2.1 _ ac_I) rfl hd rfl hn hN (by simp only [newarray.typeOf, componentBytes]; omega) hR.1 hR.2 hz fun H1 cA e1 z1 o1 hAr hNm => ?_
  have hcy : cA = cy 1 := Option.some.inj (hNm.symm.trans (hA.2.2.2.2.2.1.2 1 _ rfl).2)
  subst hcy
  obtain ⟨g1, g2, g3⟩ := an_push (x := .inl (cy 1, N, .inl (fun _ => 0))) hP hz hS e1 z1 o1
  exact k hA hO hI H1 locs ls hL g1 g2 g3
theorem an_newaB {x : Int32} {N : Nat} (hn : ¬ x < 0) (hN : x.toNatClampNeg = N) (hb : N ≤ 100000) (hR : cells + 1 ≤ R.cells ∧ slots + N ≤ R.slots) (hd : decode cc pc = .ok (.newarray .byte, 2)) (k : AN Γ l R D cy cc own nL ret Q a ini (pc + 2) L (.ref (a + n) :: st) (n + 1) (va_up F n (.inl (cy 0, N, .inl (fun _ => 0)))) (cells + 1) (slots + N)) : AN Γ l R D cy cc own nL ret Q a ini pc L (.int x :: st) n F cells slots := by
  obtain ⟨p, e, s, m, args, below, meth, c⟩ := Γ
  intro hA hO hI H locs ls hL hP hz hS
  refine va_newaK hA.1 hA.2.1 (atype := .byte) (hA.2.2.2.2.1 _ ac_B) rfl hd rfl hn hN (by simp only [newarray.typeOf, componentBytes]; omega) hR.1 hR.2 hz fun H1 cA e1 z1 o1 hAr hNm => ?_
  have hcy : cA = cy 0 := Option.some.inj (hNm.symm.trans (hA.2.2.2.2.2.1.2 0 _ rfl).2)
  subst hcy
  obtain ⟨g1, g2, g3⟩ := an_push (x := .inl (cy 0, N, .inl (fun _ => 0))) hP hz hS e1 z1 o1
  exact k hA hO hI H1 locs ls hL g1 g2 g3
theorem an_newaZ {x : Int32} {N : Nat} (hn : ¬ x < 0) (hN : x.toNatClampNeg = N) (hb : N ≤ 100000) (hR : cells + 1 ≤ R.cells ∧ slots + N ≤ R.slots) (hd : decode cc pc = .ok (.newarray .boolean, 2)) (k : AN Γ l R D cy cc own nL ret Q a ini (pc + 2) L (.ref (a + n) :: st) (n + 1) (va_up F n (.inl (cy 2, N, .inl (fun _ => 0)))) (cells + 1) (slots + N)) : AN Γ l R D cy cc own nL ret Q a ini pc L (.int x :: st) n F cells slots := by
  obtain ⟨p, e, s, m, args, below, meth, c⟩ := Γ
  intro hA hO hI H locs ls hL hP hz hS
  refine va_newaK hA.1 hA.2.1 (atype := .boolean) (hA.2.2.2.2.1 _ ac_Z) rfl hd rfl hn hN (by simp only [newarray.typeOf, componentBytes]; omega) hR.1 hR.2 hz fun H1 cA e1 z1 o1 hAr hNm => ?_
  have hcy : cA = cy 2 := Option.some.inj (hNm.symm.trans (hA.2.2.2.2.2.1.2 2 _ rfl).2)
  subst hcy
  obtain ⟨g1, g2, g3⟩ := an_push (x := .inl (cy 2, N, .inl (fun _ => 0))) hP hz hS e1 z1 o1
  exact k hA hO hI H1 locs ls hL g1 g2 g3
theorem an_anew {x : Int32} {N ti index : Nat} {C : String} (hty : (tyL cy)[ti]? = some (cy ti, .object C)) (hw : Cond.classLink own index C ∈ lw_g) (ho : ∀ U, lw_o U → va_AO C U) (hn : ¬ x < 0) (hN : x.toNatClampNeg = N) (hb : N ≤ 100000) (hR : cells + 1 ≤ R.cells ∧ slots + N ≤ R.slots) (hd : decode cc pc = .ok (.anewarray index, 3)) (k : AN Γ l R D cy cc own nL ret Q a ini (pc + 3) L (.ref (a + n) :: st) (n + 1) (va_up F n (.inl (cy ti, N, .inr (.inr (.inr (.inr (fun _ => none))))))) (cells + 1) (slots + N)) : AN Γ l R D cy cc own nL ret Q a ini pc L (.int x :: st) n F cells slots := by
  obtain ⟨p, e, s, m, args, below, meth, c⟩ := Γ
  intro hA hO hI H locs ls hL hP hz hS
  subst hN
  refine W.anew hA.1 hA.2.1 hA.2.2.2.1 (hA.2.2.2.2.1 _ hw) (va_AO.use (ho _ hO)) rfl hd rfl hn (by omega) hR.1 hR.2 fun cA kA comp f1 f2 f3 f4 => ?_
  have hcy : cA = cy ti := by
    obtain ⟨kA2, comp2, -, -, -, h4⟩ := (hA.2.2.2.2.2.1.2 ti _ hty).2
    exact Option.some.inj (f1.symm.trans h4)
  subst hcy
  generalize hH1 : H.push ({ cls := cy ti, slots := Array.replicate x.toNatClampNeg .null, vm := .none } : Cell) = H1
  have z1 : H1.size = a + n + 1 := by rw [← hH1, Array.size_push, hz]
  have e1 : H1[a + n]? = some (arrV (cy ti) x.toNatClampNeg (fun _ => .null)) := by rw [← hH1, ← hz, Array.getElem?_push_size, ← arrV_new]
  have o1 : ∀ q : Nat, q < a + n → H1[q]? = H[q]? := fun q hq => by rw [← hH1, Array.getElem?_push, if_neg (by omega)]
  obtain ⟨g1, g2, g3⟩ := an_push (x := .inl (cy ti, x.toNatClampNeg, .inr (.inr (.inr (.inr (fun _ => none)))))) hP hz hS e1 z1 o1
  rw [hz]
  exact k hA hO hI H1 locs ls hL g1 g2 g3
theorem an_put1 {s : State} {H H1 : Heap} {locs : List Loc} {x : va_E} {q0 i : Nat} (hq : q0 < n) (hP : va_P D vwCl (vwG n a F) H) (hz : H.size = a + n) (hS : va_S (fun q => a ≤ q) s.heap H locs) (e1 : va_at D vwCl (a + q0, x) H1) (z1 : H1.size = H.size) (o1 : ∀ q, q ≠ a + q0 → H1[q]? = H[q]?) : va_P D vwCl (vwG n a (va_up F q0 x)) H1 ∧ H1.size = a + n ∧ va_S (fun q => a ≤ q) s.heap H1 (locs ++ [⟨a + q0, i⟩]) := by
  refine ⟨vwG_P.mpr fun q hq => ?_, by rw [z1, hz], hS.put z1 o1 (Nat.le_add_right _ _)⟩
  by_cases hqn : q = q0
  · subst hqn
    rw [show va_up F q x q = x by simp [va_up]]
    exact e1
  · rw [show va_up F q0 x q = F q by simp [va_up, hqn]]
    exact (vwG_P.mp hP q hq).kept (o1 _ (by dsimp only; omega))
theorem an_put {C : String} {T : u_T} {N ci index q0 k : Nat} {fs : List Value} {v : Value} {ty0 : Nat → FieldType} (hin : ∀ w ∈ u_ws C T N, w ∈ lw_g) (hty : ∀ k, k < N → parseFieldDescriptor (T k).2.2.1 = some (ty0 k)) (hnm : ∀ a, a < N → ∀ b, b < N → a ≠ b → (T a).2.1 ≠ (T b).2.1) (hc : vwCl[ci]? = some (C, T, N)) (hk : k < N) (hdecl : (T k).1 = own) (hfin : ini = true) (hn : narrow (ty0 k) v = v) (hfit : fits (ty0 k) v = true) (hq0 : q0 < n) (he : F q0 = .inr (ci, fs)) (hlen : k < fs.length) (hlink : Cond.fieldLink own index (T k).1 (T k).2.1 (T k).2.2.1 ∈ lw_g) (hd : decode cc pc = .ok (.putfield index, 3)) (kk : AN Γ l R D cy cc own nL ret Q a ini (pc + 3) L st n (va_up F q0 (.inr (ci, fs.set k v))) cells slots) : AN Γ l R D cy cc own nL ret Q a ini pc L (v :: .ref (a + q0) :: st) n F cells slots := by
  obtain ⟨p, e, s, m, args, below, meth, c⟩ := Γ
  intro hA hO hI H locs ls hL hP hz hS
  have hK := hA.2.2.2.2.2.1
  have hap := va_apart (own := own) hA.2.2.2.2.1 hin ty0 hty hnm hK hc
  have hat := vwG_P.mp hP q0 hq0
  rw [he] at hat
  obtain ⟨r, h1, cell, q1, q2, q3, q4⟩ := hat
  have hr : r = (C, T, N) := Option.some.inj (h1.symm.trans hc)
  subst hr
  obtain ⟨hSl, hfc, kC, hkC, hkind⟩ := hK.1 ci _ hc
  obtain ⟨cf, kf, fi, f, hi, hsl⟩ := hSl k hk
  have hlay := hA.2.2.2.2.1 _ (hin _ (u_in_lay hk))
  unfold u_lay at hlay
  have hst := (u_facts hfc hkC (u_lays hA.2.2.2.2.1 hin hk) hi).1
  by_cases hf : (T k).2.2.2 = true
  · rw [if_pos hf] at hlay
    have hcf : m.cls = cf := by
      obtain ⟨_, _, c', _, _, _, -, -, hf', -, -, -, hown2, -⟩ := Cond.laysFinal_spec hlay
      have e1 : c' = cf := by have := hi.symm.trans hf'; simp at this; exact this.1.symm
      rw [hdecl] at hown2
      rw [← e1]; exact Option.some.inj (hA.2.2.2.1.symm.trans hown2)
    have h6 := u_fits hfc hkC hkind (Or.inr hlay) hi (hty k hk) hn hfit
    refine W.putFinK hA.1 hA.2.1 hA.2.2.2.1 (hA.2.2.2.2.1 _ hlink) hi hst hcf (hI hfin) (by rw [q2]; exact h6) q1 q3 (by rw [hsl]; exact k2_hasslot (q4 k hk)) rfl rfl hd fun H' e1 e2 e3 => ?_
    rw [hsl] at e1
    obtain ⟨g1, g2, g3⟩ := an_put1 (i := f.slot) (x := .inr (ci, fs.set k v)) hq0 hP hz hS ⟨_, hc, t_OB.to (V := updV (vp_V fs) k v) ⟨_, e1, q2, q3, t_set q4 hap hk v⟩ (fun j _ => vp_updV_set hlen v j)⟩ e2 e3
    exact kk hA hO hI H' _ ls hL g1 g2 g3
  · rw [if_neg hf] at hlay
    have h6 := u_store hfc hkC hkind hlay hi (hty k hk) hn hfit
    refine W.putK hA.1 hA.2.1 (f := f) ⟨hA.2.2.2.1, hA.2.2.2.2.1 _ hlink, ⟨_, _, _, hi⟩, hst⟩ (by rw [q2]; exact h6) q1 q3 (by rw [hsl]; exact k2_hasslot (q4 k hk)) rfl rfl hd fun H' e1 e2 e3 => ?_
    rw [hsl] at e1
    obtain ⟨g1, g2, g3⟩ := an_put1 (i := f.slot) (x := .inr (ci, fs.set k v)) hq0 hP hz hS ⟨_, hc, t_OB.to (V := updV (vp_V fs) k v) ⟨_, e1, q2, q3, t_set q4 hap hk v⟩ (fun j _ => vp_updV_set hlen v j)⟩ e2 e3
    exact kk hA hO hI H' _ ls hL g1 g2 g3
theorem an_get {C : String} {T : u_T} {N ci index q0 k : Nat} {fs : List Value} {v : Value} (hin : ∀ w ∈ u_ws C T N, w ∈ lw_g) (hc : vwCl[ci]? = some (C, T, N)) (hk : k < N) (hq0 : q0 < n) (he : F q0 = .inr (ci, fs)) (hv : fs[k]? = some v) (hlink : Cond.fieldLink own index (T k).1 (T k).2.1 (T k).2.2.1 ∈ lw_g) (hd : decode cc pc = .ok (.getfield index, 3)) (kk : AN Γ l R D cy cc own nL ret Q a ini (pc + 3) L (v :: st) n F cells slots) : AN Γ l R D cy cc own nL ret Q a ini pc L (.ref (a + q0) :: st) n F cells slots := by
  obtain ⟨p, e, s, m, args, below, meth, c⟩ := Γ
  intro hA hO hI H locs ls hL hP hz hS
  exact va_get hA.1 hA.2.1 hA.2.2.2.2.1 hin hA.2.2.2.1 hA.2.2.2.2.2.1 hP q0 (by rw [vwG_at hq0, he]) hc k hk (hA.2.2.2.2.1 _ hlink) (fun x h => h) hv hd (kk hA hO hI H locs ls hL hP hz hS)
theorem an_aast {ti q0 qk ci N i : Nat} {r : vw_C} {x : Int32} {fs : List Value} {f : Nat → Option Nat} (hty : (tyL cy)[ti]? = some (cy ti, .object r.1)) (hc : vwCl[ci]? = some r) (hq0 : q0 < n) (hqk : qk < n) (he : F q0 = .inl (cy ti, N, .inr (.inr (.inr (.inr f))))) (hv : F qk = .inr (ci, fs)) (hi : x = nI i) (hiN : i < N) (hN : N < 2 ^ 31) (hd : decode cc pc = .ok (.aastore, 1)) (kk : AN Γ l R D cy cc own nL ret Q a ini (pc + 1) L st n (va_up F q0 (.inl (cy ti, N, .inr (.inr (.inr (.inr (va_up f i (some (a + qk))))))))) cells slots) : AN Γ l R D cy cc own nL ret Q a ini pc L (.ref (a + qk) :: .int x :: .ref (a + q0) :: st) n F cells slots := by
  obtain ⟨p, e, s, m, args, below, meth, c⟩ := Γ
  intro hA hO hI H locs ls hL hP hz hS
  have hK := hA.2.2.2.2.2.1
  have hin : vp_in x N := by rw [hi]; exact vp_in_nI hiN hN
  have hxi : x.toNatClampNeg = i := by rw [hi]; exact nI_clamp (by omega)
  have hlt : x.toNatClampNeg < N := by rw [hxi]; exact hiN
  have h0 : ¬ x < 0 := fun q => hin (Or.inl q)
  have hat := vwG_P.mp hP q0 hq0
  rw [he] at hat
  have hatk := vwG_P.mp hP qk hqk
  rw [hv] at hatk
  obtain ⟨r', hr', cellV, g1, g2, g3, -⟩ := hatk
  have hcls := (hK.1 ci r hc).2
  obtain ⟨kA, comp, k1, k2, k3, -⟩ := (hK.2 ti _ hty).2
  have hcomp : comp = D.1 ci := Option.some.inj (k3.symm.trans hcls.1)
  subst hcomp
  obtain ⟨kC, hkC, -⟩ := hcls.2
  refine W.aast hA.1 hA.2.1 hat (fun q h => by cases h) (fun h => by cases h) k1 k2 rfl hkC ⟨h0, by show _ < (arrV _ _ _).slots.size; rw [arrV_size]; exact hlt⟩ g1 (fun q h => by rw [g3] at h; cases h) (by rw [g2]; exact hkC) (by rw [g2]; exact va_assign hcls) rfl rfl hd fun H1 e1 z1 oq => ?_
  have e2 : va_at D vwCl (a + q0, .inl (cy ti, N, .inr (.inr (.inr (.inr (va_up f i (some (a + qk)))))))) H1 := by
    show H1[a + q0]? = some (vp_cell _ _)
    rw [e1]
    rw [vp_cell_q, vp_cell_q, arrV_store]
    congr 2
    funext q
    by_cases hq : q = x.toNatClampNeg
    · subst hq
      simp [updV, va_up, va_rf, hxi]
    · have hq' : ¬ q = i := by rw [← hxi]; exact hq
      simp [updV, va_up, hq, hq']
  obtain ⟨g1, g2, g3⟩ := an_put1 (i := x.toNatClampNeg) hq0 hP hz hS e2 z1 oq
  exact kk hA hO hI H1 _ ls hL g1 g2 g3
end ANS
/-- a constructor: out of its own blank cell F0 at a (the last one made) it makes cnt cells; all are F1 then -/
def CN (l : Launch) (D : va_G) (cy : Nat → ClassId) (y : MethodName) (bytes : ByteArray) (maxL : Nat) (rF rL cnt sl : Nat) (As : List Value) (a : Nat) (x0 : va_E) (F1 : Nat → va_E) : Prop :=
  Met l y (Cond.code y bytes maxL none :: lw_g) { frames := rF, cells := cnt, slots := sl, locals := rL } (va_Pc (.ref a :: As) (fun U => (va_P D vwCl (vwG 1 a (fun _ => x0)) U.heap ∧ U.heap.size = a + 1) ∧ va_K D vwCl (tyL cy) U ∧ (∀ w ∈ lw_n, va_Nw w U) ∧ lw_o U)) (fun _ st o t => o = .returned none ∧ va_P D vwCl (vwG (1 + cnt) a F1) t.heap ∧ t.heap.size = a + (1 + cnt) ∧ va_F (fun q => a ≤ q) st t) cnt sl (fun q => a ≤ q)
abbrev QN (D : va_G) (a cnt sl : Nat) (F1 : Nat → va_E) : Cx → State → Prop := fun Γ => MQ Γ.2.2.2.2.2.1 (fun _ st o t => o = .returned none ∧ va_P D vwCl (vwG (1 + cnt) a F1) t.heap ∧ t.heap.size = a + (1 + cnt) ∧ va_F (fun q => a ≤ q) st t) Γ.2.2.2.2.1 Γ.2.2.1 cnt sl (fun q => a ≤ q)
/-- a constructor's call, of invokespecial, or of a nest mate's -/
def CSI (own : String) (index : Nat) (y : MethodName) (bytes : ByteArray) (maxL : Nat) (n : Nat) : Prop :=
  (Cond.methodLink own index y ∈ lw_g ∨ ∃ host, Cond.methodLinkNest own index y host ∈ lw_n) ∧ (Cond.instanceMethod y ∈ lw_g ∧ Cond.initialized y.cls ∈ lw_g ∧ Cond.code y bytes maxL none ∈ lw_g) ∧ y.name = "<init>" ∧ y.cls ≠ "java/lang/invoke/MethodHandle" ∧ y.cls ≠ "java/lang/invoke/VarHandle" ∧ (parseMethodDescriptor y.desc).map (fun d => d.parameters.length) = some n
section ANC
variable {Γ : Cx} {l : Launch} {R : Room} {D : va_G} {cy : Nat → ClassId} {cc : ByteArray} {own : String} {nL : Nat} {ret : Option FieldType} {Q : Cx → State → Prop} {a : Nat} {ini : Bool} {pc : Nat} {L : List (Option Value)} {st : List Value} {n : Nat} {F : Nat → va_E} {cells slots : Nat}
theorem an_init {y : MethodName} {bytes : ByteArray} {maxL rF rL cnt sl index nn : Nat} {As rest : List Value} {x0 : va_E} {F1 : Nat → va_E} (hM : CN l D cy y bytes maxL rF rL cnt sl As (a + n) x0 F1) (hF : F n = x0) (hw : CSI own index y bytes maxL nn) (hn : As.length = nn) (hst : st = As.reverse ++ .ref (a + n) :: rest) (hrest : (rest.map fun v => v.category).sum ≤ 8) (hR : rF + 1 ≤ R.frames ∧ 8 + (maxL + 11) + rL ≤ R.locals) (hcs : cells + cnt ≤ R.cells ∧ slots + sl ≤ R.slots) (hd : decode cc pc = .ok (.invokespecial index, 3))
    (k : AN Γ l R D cy cc own nL ret Q a ini (pc + 3) L rest (n + 1 + cnt) (fun p => if p < n then F p else F1 (p - n)) (cells + cnt) (slots + sl)) : AN Γ l R D cy cc own nL ret Q a ini pc L st (n + 1) F cells slots := by
  obtain ⟨p, e, s, m, args, below, meth, c⟩ := Γ
  intro hA hO hI H locs ls hL hP hz hS
  subst hst
  have ht := hA.2.2.2.2.1
  have hN : ∀ w ∈ lw_n, va_Nw w s := hA.2.2.2.2.2.2.2.2
  have hP0 : va_P D vwCl (vwG 1 (a + n) (fun _ => x0)) H := vwG_P.mpr fun q hq => by
    have h0 : q = 0 := by omega
    subst h0
    have h1 := vwG_P.mp hP n (by omega)
    rw [hF] at h1
    exact h1
  have hpre : PreS s H (va_Pc (.ref (a + n) :: As) (fun U => (va_P D vwCl (vwG 1 (a + n) (fun _ => x0)) U.heap ∧ U.heap.size = a + n + 1) ∧ va_K D vwCl (tyL cy) U ∧ (∀ w ∈ lw_n, va_Nw w U) ∧ lw_o U)) (.ref (a + n) :: As) :=
    ⟨fun a' U g mk q => by
      obtain ⟨q1, q2, q3, q4, q5⟩ := q
      exact ⟨q1, q2, va_K.moved (u := U) (U := U.calling g mk a') (Vm.Alike.refl U.vm) q3, lw_n_same (s := U) (U := U.calling g mk a') rfl q4, lw_o.moved (u := U) (U := U.calling g mk a') (Vm.Alike.refl U.vm) q5⟩,
     fun U hU hW => ⟨rfl, ⟨by rw [hU]; exact hP0, by rw [hU, hz]; rfl⟩, va_K.moved hW.alike hA.2.2.2.2.2.1, lw_n_warm hW hN, lw_o.moved hW.alike hO⟩⟩
  have hrun : va_Run p l e R s m args below meth c H locs cells slots cnt sl (F0 m pc ls (As.reverse ++ .ref (a + n) :: rest)) rest (fun st o t => o = .returned none ∧ va_P D vwCl (vwG (1 + cnt) (a + n) F1) t.heap ∧ t.heap.size = a + n + (1 + cnt) ∧ va_F (fun q => a + n ≤ q) st t) (fun q => a + n ≤ q) := by
    rcases hw.1 with h1 | ⟨host, h1⟩
    · exact va_runI (bytes := bytes) (maxL := maxL) (As := As) (rest := rest) ⟨hA.1, hA.2.1, hA.2.2.1, hA.2.2.2.1, ht⟩ hM ⟨callB_of nn ht (good_code hw.2.1.2.2) rfl rfl rfl (ht _ hw.2.1.2.1) (ht _ h1) hw.2.2.2 hR, hw.2.2.1, ht _ hw.2.1.1⟩ hpre rfl hn (by exact hL.1) rfl (lv_room hrest) hd hcs
    · exact va_runIN (bytes := bytes) (maxL := maxL) (As := As) (rest := rest) ⟨hA.1, hA.2.1, hA.2.2.1, hA.2.2.2.1, ht⟩ hM ⟨va_cnB nn ht (good_code hw.2.1.2.2) rfl rfl rfl (hN _ h1) (ht _ hw.2.1.2.1) hw.2.2.2 hR, hw.2.2.1, ht _ hw.2.1.1⟩ hpre rfl hn (by exact hL.1) rfl (lv_room hrest) hd hcs
  intro T hT X
  obtain ⟨v, st₀, t, T', L1, h0, X', hL1, e1, e2, ⟨hv, hp1, hsz, hzf, hk⟩, stp⟩ := hrun T hT X
  have hv := Outcome.returned.inj hv
  subst hv
  rw [h0] at hzf hk
  have k1 : va_P D vwCl (vwG (n + 1 + cnt) a (fun p => if p < n then F p else F1 (p - n))) T'.heap := by
    refine vwG_P.mpr fun q hq => ?_
    by_cases hqn : q < n
    · rw [if_pos hqn]
      have h3 := vwG_P.mp hP q (by omega)
      refine h3.kept ?_
      rw [e1]
      exact hk _ (by dsimp only; omega) (by dsimp only; omega)
    · rw [if_neg hqn]
      have h3 := vwG_P.mp hp1 (q - n) (by omega)
      rw [show a + n + (q - n) = a + q by omega] at h3
      rw [e1]
      exact h3
  have k3 : va_S (fun q => a ≤ q) s.heap T'.heap (locs ++ L1) := by
    refine ⟨Nat.le_trans hS.1 (by rw [e1]; exact hzf), fun q h1 h2 => ?_, fun q hq => ?_⟩
    · rw [e1, hk q (by have := hS.1; omega) (by omega)]
      exact hS.2.1 q h1 h2
    · rcases List.mem_append.mp hq with h | h
      · exact hS.2.2 q h
      · exact Nat.le_trans (Nat.le_add_right _ _) (hL1 q h)
  obtain ⟨t2, a1, b1⟩ := k hA hO hI T'.heap (locs ++ L1) ls hL k1 (by rw [e1, hsz]; omega) k3 T' rfl X'
  exact ⟨t2, stp t2 a1, b1⟩
theorem an_ret {cnt sl : Nat} (hd : decode cc pc = .ok (.return_, 1)) (hn : n = 1 + cnt) (hc : cells ≤ cnt ∧ slots ≤ sl) : AN Γ l R D cy cc own nL none (QN D a cnt sl F) a ini pc L [] n F cells slots := by
  obtain ⟨p, e, s, m, args, below, meth, c⟩ := Γ
  intro hA hO hI H locs ls hL hP hz hS
  subst hn
  refine W.widen (k := cnt) (n := sl) hc.1 hc.2 ?_
  exact W.vret hA.1 hA.2.1 hA.2.2.2.2.2.2.2.1 (fun t ht hW => ⟨rfl, by rw [ht]; exact hP, by rw [ht, hz], hS.F ht⟩) hS.2.2 hd hA.2.2.2.2.2.2.1
end ANC
theorem cn_of {l : Launch} {D : va_G} {cy : Nat → ClassId} {y : MethodName} {cc : ByteArray} {nL rF rL cnt sl : Nat} {As : List Value} {a : Nat} {x0 : va_E} {F1 : Nat → va_E} {L : List (Option Value)} {own : String}
    (hy : plainFor y = true) (hown : y.cls = own) (hnm : y.name = "<init>") (hav : (lg_sl (.ref a :: As)).length ≤ nL) (hL : pad nL (argL (.ref a :: As)) = L)
    (body : ∀ Γ : Cx, AN Γ l { frames := rF, cells := cnt, slots := sl, locals := rL } D cy cc own nL none (QN D a cnt sl F1) a true 0 L [] 1 (fun _ => x0) 0 0) : CN l D cy y cc nL rF rL cnt sl As a x0 F1 := by
  refine va_MetF (cc := cc) (maxL := nL) (ret := none) hy rfl ?_
  intro p e s m args below meth c s₁ B hml hv
  obtain ⟨rfl, ⟨hP, hsz⟩, hK, hN, hO⟩ := hv
  have hts := atoms_spec (ws := Cond.code y cc nL none :: lw_g) B.pre
  have hown' : s.vm.findClass y.cls = some m.cls := findClass_of_methodNamed B.named
  have hl := lv_entry (.ref a :: As) (n := nL) hav
  rw [lg_entry_eq]
  generalize (lg_sl (.ref a :: As) ++ List.replicate (nL - (lg_sl (.ref a :: As)).length) Slot.unset).toArray = ls at hl ⊢
  have hLR : LR ls nL L := by
    refine ⟨hl.1, hl.2.1, fun i v h => ?_⟩
    rw [← hL] at h
    have h1 := argL_at (.ref a :: As) 0 i v (pad_at _ _ _ _ h)
    rw [Nat.zero_add] at h1
    exact hl.2.2 _ h1
  exact body (p, e, s, m, _, below, meth, c) ⟨B.exec, B.bytes, hml, by rw [← hown]; exact hown', fun w hw => hts w (List.mem_cons_of_mem _ hw), hK, B.notSynchronized, B.returns, hN⟩ hO (fun _ => by rw [(name_of_methodNamed B.named B.method).1]; exact hnm) s.heap [] ls hLR hP hsz va_S.rf
theorem ci_L_15 : CSI RL 15 yX11_init cX11_init 3 1 := ⟨Or.inl (lw_g_of (List.mem_append_right _ (List.mem_append_left _ (List.mem_of_getElem? (i := 18) rfl : _ ∈ tables_1_1))) rfl), ⟨lw_g_of (List.mem_append_right _ (List.mem_append_left _ (List.mem_of_getElem? (i := 19) rfl : _ ∈ tables_1_1))) rfl, lw_g_of (List.mem_append_right _ (List.mem_append_left _ (List.mem_of_getElem? (i := 1) rfl : _ ∈ tables_1_1))) rfl, lw_g_of (List.mem_append_right _ (List.mem_append_left _ (List.mem_of_getElem? (i := 20) rfl : _ ∈ tables_1_1))) rfl⟩, rfl, by decide, by decide, rfl⟩
theorem ci_X11_11 : CSI RX11 11 yX10_init cX10_init 3 1 := ⟨Or.inl (lw_g_of (List.mem_append_right _ (List.mem_append_left _ (List.mem_of_getElem? (i := 26) rfl : _ ∈ tables_1_1))) rfl), ⟨lw_g_of (List.mem_append_right _ (List.mem_append_left _ (List.mem_of_getElem? (i := 27) rfl : _ ∈ tables_1_1))) rfl, lw_g_of (List.mem_append_right _ (List.mem_append_left _ (List.mem_of_getElem? (i := 2) rfl : _ ∈ tables_1_1))) rfl, lw_g_of (List.mem_append_right _ (List.mem_append_left _ (List.mem_of_getElem? (i := 28) rfl : _ ∈ tables_1_1))) rfl⟩, rfl, by decide, by decide, rfl⟩
theorem ci_X10_11 : CSI RX10 11 yX6_init cX6_init 2 1 := ⟨Or.inl (lw_g_of (List.mem_append_right _ (List.mem_append_left _ (List.mem_of_getElem? (i := 32) rfl : _ ∈ tables_1_1))) rfl), ⟨lw_g_of (List.mem_append_right _ (List.mem_append_left _ (List.mem_of_getElem? (i := 33) rfl : _ ∈ tables_1_1))) rfl, lw_g_of (List.mem_append_right _ (List.mem_append_left _ (List.mem_of_getElem? (i := 3) rfl : _ ∈ tables_1_1))) rfl, lw_g_of (List.mem_append_right _ (List.mem_append_left _ (List.mem_of_getElem? (i := 34) rfl : _ ∈ tables_1_1))) rfl⟩, rfl, by decide, by decide, rfl⟩
theorem ci_X10_37 : CSI RX10 37 yX0_init cX0_init 1 0 := ⟨Or.inr ⟨RX11, List.mem_filter.mpr ⟨List.mem_append_right _ (List.mem_append_left _ (List.mem_of_getElem? (i := 55) rfl : _ ∈ tables_1_1)), rfl⟩⟩, ⟨lw_g_of (List.mem_append_right _ (List.mem_append_left _ (List.mem_of_getElem? (i := 56) rfl : _ ∈ tables_1_1))) rfl, lw_g_of (List.mem_append_right _ (List.mem_append_left _ (List.mem_of_getElem? (i := 4) rfl : _ ∈ tables_1_1))) rfl, lw_g_of (List.mem_append_right _ (List.mem_append_left _ (List.mem_of_getElem? (i := 57) rfl : _ ∈ tables_1_1))) rfl⟩, rfl, by decide, by decide, rfl⟩
theorem ci_X10_48 : CSI RX10 48 yX8_init cX8_init 2 1 := ⟨Or.inl (lw_g_of (List.mem_append_right _ (List.mem_append_left _ (List.mem_of_getElem? (i := 99) rfl : _ ∈ tables_1_1))) rfl), ⟨lw_g_of (List.mem_append_right _ (List.mem_append_left _ (List.mem_of_getElem? (i := 100) rfl : _ ∈ tables_1_1))) rfl, lw_g_of (List.mem_append_right _ (List.mem_append_left _ (List.mem_of_getElem? (i := 5) rfl : _ ∈ tables_1_1))) rfl, lw_g_of (List.mem_append_right _ (List.mem_append_left _ (List.mem_of_getElem? (i := 101) rfl : _ ∈ tables_1_1))) rfl⟩, rfl, by decide, by decide, rfl⟩
theorem ci_X10_55 : CSI RX10 55 yX4_init cX4_init 2 1 := ⟨Or.inl (lw_g_of (List.mem_append_right _ (List.mem_append_left _ (List.mem_of_getElem? (i := 114) rfl : _ ∈ tables_1_1))) rfl), ⟨lw_g_of (List.mem_append_right _ (List.mem_append_left _ (List.mem_of_getElem? (i := 115) rfl : _ ∈ tables_1_1))) rfl, lw_g_of (List.mem_append_right _ (List.mem_append_left _ (List.mem_of_getElem? (i := 6) rfl : _ ∈ tables_1_1))) rfl, lw_g_of (List.mem_append_right _ (List.mem_append_left _ (List.mem_of_getElem? (i := 116) rfl : _ ∈ tables_1_1))) rfl⟩, rfl, by decide, by decide, rfl⟩
theorem ci_X10_60 : CSI RX10 60 yX1_init cX1_init 1 0 := ⟨Or.inr ⟨RX11, List.mem_filter.mpr ⟨List.mem_append_right _ (List.mem_append_left _ (List.mem_of_getElem? (i := 152) rfl : _ ∈ tables_1_1)), rfl⟩⟩, ⟨lw_g_of (List.mem_append_right _ (List.mem_append_left _ (List.mem_of_getElem? (i := 153) rfl : _ ∈ tables_1_1))) rfl, lw_g_of (List.mem_append_right _ (List.mem_append_left _ (List.mem_of_getElem? (i := 7) rfl : _ ∈ tables_1_1))) rfl, lw_g_of (List.mem_append_right _ (List.mem_append_left _ (List.mem_of_getElem? (i := 154) rfl : _ ∈ tables_1_1))) rfl⟩, rfl, by decide, by decide, rfl⟩
theorem ci_X10_61 : CSI RX10 61 yX9_init cX9_init 3 1 := ⟨Or.inl (lw_g_of (List.mem_append_right _ (List.mem_append_left _ (List.mem_of_getElem? (i := 202) rfl : _ ∈ tables_1_1))) rfl), ⟨lw_g_of (List.mem_append_right _ (List.mem_append_left _ (List.mem_of_getElem? (i := 203) rfl : _ ∈ tables_1_1))) rfl, lw_g_of (List.mem_append_right _ (List.mem_append_left _ (List.mem_of_getElem? (i := 8) rfl : _ ∈ tables_1_1))) rfl, lw_g_of (List.mem_append_right _ (List.mem_append_left _ (List.mem_of_getElem? (i := 204) rfl : _ ∈ tables_1_1))) rfl⟩, rfl, by decide, by decide, rfl⟩
theorem ci_X9_17 : CSI RX9 17 yX0_init cX0_init 1 0 := ⟨Or.inr ⟨RX11, List.mem_filter.mpr ⟨List.mem_append_right _ (List.mem_append_left _ (List.mem_of_getElem? (i := 208) rfl : _ ∈ tables_1_1)), rfl⟩⟩, ⟨lw_g_of (List.mem_append_right _ (List.mem_append_left _ (List.mem_of_getElem? (i := 56) rfl : _ ∈ tables_1_1))) rfl, lw_g_of (List.mem_append_right _ (List.mem_append_left _ (List.mem_of_getElem? (i := 4) rfl : _ ∈ tables_1_1))) rfl, lw_g_of (List.mem_append_right _ (List.mem_append_left _ (List.mem_of_getElem? (i := 57) rfl : _ ∈ tables_1_1))) rfl⟩, rfl, by decide, by decide, rfl⟩
theorem ci_X9_32 : CSI RX9 32 yX3_init cX3_init 1 0 := ⟨Or.inr ⟨RX11, List.mem_filter.mpr ⟨List.mem_append_right _ (List.mem_append_left _ (List.mem_of_getElem? (i := 212) rfl : _ ∈ tables_1_1)), rfl⟩⟩, ⟨lw_g_of (List.mem_append_right _ (List.mem_append_left _ (List.mem_of_getElem? (i := 213) rfl : _ ∈ tables_1_1))) rfl, lw_g_of (List.mem_append_right _ (List.mem_append_left _ (List.mem_of_getElem? (i := 9) rfl : _ ∈ tables_1_1))) rfl, lw_g_of (List.mem_append_right _ (List.mem_append_left _ (List.mem_of_getElem? (i := 214) rfl : _ ∈ tables_1_1))) rfl⟩, rfl, by decide, by decide, rfl⟩
theorem ci_X3_9 : CSI RX3 9 yX0_init cX0_init 1 0 := ⟨Or.inr ⟨RX11, List.mem_filter.mpr ⟨List.mem_append_right _ (List.mem_append_left _ (List.mem_of_getElem? (i := 217) rfl : _ ∈ tables_1_1)), rfl⟩⟩, ⟨lw_g_of (List.mem_append_right _ (List.mem_append_left _ (List.mem_of_getElem? (i := 56) rfl : _ ∈ tables_1_1))) rfl, lw_g_of (List.mem_append_right _ (List.mem_append_left _ (List.mem_of_getElem? (i := 4) rfl : _ ∈ tables_1_1))) rfl, lw_g_of (List.mem_append_right _ (List.mem_append_left _ (List.mem_of_getElem? (i := 57) rfl : _ ∈ tables_1_1))) rfl⟩, rfl, by decide, by decide, rfl⟩
theorem ci_X11_20 : CSI RX11 20 yX5_init cX5_init 1 0 := ⟨Or.inr ⟨RX11, List.mem_filter.mpr ⟨List.mem_append_right _ (List.mem_append_right _ (List.mem_append_left _ (List.mem_of_getElem? (i := 157) rfl : _ ∈ tables_1_2))), rfl⟩⟩, ⟨lw_g_of (List.mem_append_right _ (List.mem_append_right _ (List.mem_append_left _ (List.mem_of_getElem? (i := 158) rfl : _ ∈ tables_1_2)))) rfl, lw_g_of (List.mem_append_right _ (List.mem_append_left _ (List.mem_of_getElem? (i := 10) rfl : _ ∈ tables_1_1))) rfl, lw_g_of (List.mem_append_right _ (List.mem_append_right _ (List.mem_append_left _ (List.mem_of_getElem? (i := 159) rfl : _ ∈ tables_1_2)))) rfl⟩, rfl, by decide, by decide, rfl⟩
theorem ci_L_20 : CSI RL 20 yX12_init cX12_init 2 1 := ⟨Or.inl (lw_g_of (List.mem_append_right _ (List.mem_append_right _ (List.mem_append_right _ (List.mem_append_right _ (List.mem_append_right _ (List.mem_append_left _ (List.mem_of_getElem? (i := 175) rfl : _ ∈ tables_1_5))))))) rfl), ⟨lw_g_of (List.mem_append_right _ (List.mem_append_right _ (List.mem_append_right _ (List.mem_append_right _ (List.mem_append_right _ (List.mem_append_left _ (List.mem_of_getElem? (i := 176) rfl : _ ∈ tables_1_5))))))) rfl, lw_g_of (List.mem_append_right _ (List.mem_append_left _ (List.mem_of_getElem? (i := 11) rfl : _ ∈ tables_1_1))) rfl, lw_g_of (List.mem_append_right _ (List.mem_append_right _ (List.mem_append_right _ (List.mem_append_right _ (List.mem_append_right _ (List.mem_append_left _ (List.mem_of_getElem? (i := 177) rfl : _ ∈ tables_1_5))))))) rfl⟩, rfl, by decide, by decide, rfl⟩
