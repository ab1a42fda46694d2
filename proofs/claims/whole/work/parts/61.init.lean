theorem bl_X0 : ∀ j, j < 6 → defaultValue (tyX0 j) = vp_V [.int 0, .int 0, .int 0, .int 0, .int 0, .int 0] j := by decide +kernel
theorem bl_X1 : ∀ j, j < 12 → defaultValue (tyX1 j) = vp_V [.null, .null, .int 0, .int 0, .int 0, .int 0, .int 0, .int 0, .int 0, .int 0, .int 0, .int 0] j := by decide +kernel
theorem bl_X3 : ∀ j, j < 7 → defaultValue (tyX3 j) = vp_V [.null, .null, .null, .null, .null, .int 0, .int 0] j := by decide +kernel
theorem bl_X4 : ∀ j, j < 9 → defaultValue (tyX4 j) = vp_V [.null, .null, .int 0, .int 0, .int 0, .int 0, .int 0, .int 0, .int 0] j := by decide +kernel
theorem bl_X5 : ∀ j, j < 10 → defaultValue (tyX5 j) = vp_V [.null, .int 0, .int 0, .int 0, .int 0, .int 0, .int 0, .int 0, .int 0, .int 0] j := by decide +kernel
theorem bl_X6 : ∀ j, j < 3 → defaultValue (tyX6 j) = vp_V [.null, .int 0, .int 0] j := by decide +kernel
theorem bl_X8 : ∀ j, j < 2 → defaultValue (tyX8 j) = vp_V [.null, .null] j := by decide +kernel
theorem bl_X9 : ∀ j, j < 19 → defaultValue (tyX9 j) = vp_V [.int 0, .null, .null, .null, .int 0, .int 0, .int 0, .int 0, .int 0, .int 0, .int 0, .int 0, .int 0, .int 0, .int 0, .int 0, .int 0, .int 0, .int 0] j := by decide +kernel
theorem bl_X10 : ∀ j, j < 17 → defaultValue (tyX10 j) = vp_V [.null, .null, .null, .null, .null, .null, .null, .int 0, .int 0, .int 0, .int 0, .int 0, .int 0, .int 0, .int 0, .int 0, .int 0] j := by decide +kernel
theorem bl_X11 : ∀ j, j < 2 → defaultValue (tyX11 j) = vp_V [.null, .null] j := by decide +kernel
theorem bl_X12 : ∀ j, j < 82 → defaultValue (tyX12 j) = vp_V [.int 0, .null, .null, .null, .null, .null, .null, .null, .null, .null, .null, .int 0, .null, .int 0, .int 0, .int 0, .int 0, .int 0, .int 0, .int 0, .null, .null, .null, .null, .null, .null, .null, .null, .null, .null, .null, .null, .null, .null, .null, .null, .null, .null, .null, .null, .null, .null, .null, .null, .null, .null, .null, .int 0, .int 0, .int 0, .int 0, .int 0, .int 0, .int 0, .int 0, .int 0, .null, .null, .null, .null, .int 0, .int 0, .int 0, .null, .int 0, .null, .int 0, .int 0, .null, .null, .null, .null, .null, .null, .null, .null, .null, .null, .null, .null, .int 0, .int 0] j := by decide +kernel
def capZ : va_E := .inr (0, [.int 0, .int 0, .int 0, .int 0, .int 0, .int 0])
def cmpZ (cy : Nat → ClassId) (a p : Nat) : va_E := if p = 0 then .inr (1, [.ref (a + 1), .ref (a + 2), .int 0, .int 0, .int 0, .int 0, .int 0, .int 0, .int 0, .int 0, .int 0, .int 0]) else .inl (cy 1, 8, .inl (fun _ => 0))
def frmZ (a p : Nat) : va_E := if p = 0 then .inr (2, [.ref (a + 1), .ref (a + 2), .ref (a + 3), .ref (a + 4), .ref (a + 5), .int 0, .int 0]) else capZ
def hepZ (cy : Nat → ClassId) (N a p : Nat) : va_E := if p = 0 then .inr (3, [.ref (a + 1), .ref (a + 2), .int 0, .int 0, .int 0, .int 0, .int 0, .int (-1), .int 0]) else .inl (cy 1, N, .inl (fun _ => 0))
def ldrZ (cy : Nat → ClassId) (a p : Nat) : va_E := if p = 0 then .inr (4, [.ref (a + 1), .int 0, .int 0, .int 0, .int 0, .int (-1), .int 0, .int 0, .int 0, .int 0]) else .inl (cy 0, 5000, .inl (fun _ => 0))
def rngZ (cy : Nat → ClassId) (N a p : Nat) : va_E := if p = 0 then .inr (5, [.ref (a + 1), .int 0, .int 0]) else .inl (cy 0, N, .inl (fun _ => 0))
def stoZ (cy : Nat → ClassId) (N a p : Nat) : va_E := if p = 0 then .inr (6, [.ref (a + 1), .ref (a + 2)]) else if p = 1 then .inl (cy 0, 16 * N, .inl (fun _ => 0)) else .inl (cy 0, N, .inl (fun _ => 0))
def tskZ (cy : Nat → ClassId) (num : Int32) (i j a p : Nat) : va_E := if p = 0 then .inr (7, [.int num, .ref (a + 1), .ref (a + 2), .ref (a + 3), .int 0, .int 0, .int 0, .int 0, .int 0, .int 0, .int 0, .int 0, .int 0, .int 0, .int 0, .int 0, .int 0, .int 0, .int 0]) else if p = 1 then .inl (cy 3, 16, .inr (.inr (.inr (.inr (fun k => if k < i then some (a + (4 + k)) else none))))) else if p = 2 then capZ else if p = 3 then .inl (cy 5, 16, .inr (.inr (.inr (.inr (fun k => if k < j then some (a + (20 + 6 * k)) else none))))) else if p < 20 then capZ else frmZ (a + (20 + 6 * ((p - 20) / 6))) ((p - 20) % 6)
set_option maxRecDepth 100000 in
set_option maxHeartbeats 4000000 in
theorem n_X0 {l : Launch} {D : va_G} {cy : Nat → ClassId}  (a : Nat) : CN l D cy yX0_init cX0_init 1 1 20 0 0 [] a (.inr (0, [.int 0, .int 0, .int 0, .int 0, .int 0, .int 0])) (fun _ => capZ) := by
  refine cn_of (by decide +kernel) (own := RX0) rfl rfl (Nat.le_of_ble_eq_true rfl) (L := [some (.ref a)]) rfl (fun Γ => ?_)
  refine an_aload_n dX0_init_0 rfl ?_
  refine an_obj ol_X0_3 (Nat.le_of_ble_eq_true rfl) ⟨Nat.le_of_ble_eq_true rfl, Nat.le_of_ble_eq_true rfl⟩ dX0_init_1 ?_
  exact an_ret dX0_init_4 rfl ⟨Nat.le_refl _, Nat.le_refl _⟩
set_option maxRecDepth 100000 in
set_option maxHeartbeats 4000000 in
theorem n_X1 {l : Launch} {D : va_G} {cy : Nat → ClassId}  (a : Nat) : CN l D cy yX1_init cX1_init 1 1 20 2 16 [] a (.inr (1, [.null, .null, .int 0, .int 0, .int 0, .int 0, .int 0, .int 0, .int 0, .int 0, .int 0, .int 0])) (cmpZ cy a) := by
  refine cn_of (by decide +kernel) (own := RX1) rfl rfl (Nat.le_of_ble_eq_true rfl) (L := [some (.ref a)]) rfl (fun Γ => ?_)
  refine an_aload_n dX1_init_0 rfl ?_
  refine an_obj ol_X1_3 (Nat.le_of_ble_eq_true rfl) ⟨Nat.le_of_ble_eq_true rfl, Nat.le_of_ble_eq_true rfl⟩ dX1_init_1 ?_
  refine an_aload_n dX1_init_4 rfl ?_
  refine an_bipush (v := 8) dX1_init_5 (by decide) ?_
  refine an_newaI (N := 8) (by decide) (by decide) (by decide) ⟨by simp only; omega, by simp only; omega⟩ dX1_init_7 ?_
  refine an_put ingX1 tyX1_ok nmX1 (ci := 1) (k := 0) rfl (by decide) rfl rfl rfl rfl (q0 := 0) (by omega) rfl (Nat.le_of_ble_eq_true rfl) fl_X1_11 dX1_init_9 ?_
  refine an_aload_n dX1_init_12 rfl ?_
  refine an_bipush (v := 8) dX1_init_13 (by decide) ?_
  refine an_newaI (N := 8) (by decide) (by decide) (by decide) ⟨by simp only; omega, by simp only; omega⟩ dX1_init_15 ?_
  refine an_put ingX1 tyX1_ok nmX1 (ci := 1) (k := 1) rfl (by decide) rfl rfl rfl rfl (q0 := 0) (by omega) rfl (Nat.le_of_ble_eq_true rfl) fl_X1_15 dX1_init_17 ?_
  refine an_F (G := cmpZ cy a) (fun p hp => by rcases (show p = 0 ∨ p = 1 ∨ p = 2 by omega) with rfl | rfl | rfl <;> rfl) ?_
  exact an_ret dX1_init_20 rfl ⟨by omega, by omega⟩
set_option maxRecDepth 100000 in
set_option maxHeartbeats 4000000 in
theorem n_X3 {l : Launch} {D : va_G} {cy : Nat → ClassId}  (a : Nat) : CN l D cy yX3_init cX3_init 1 2 40 5 30 [] a (.inr (2, [.null, .null, .null, .null, .null, .int 0, .int 0])) (frmZ a) := by
  refine cn_of (by decide +kernel) (own := RX3) rfl rfl (Nat.le_of_ble_eq_true rfl) (L := [some (.ref a)]) rfl (fun Γ => ?_)
  refine an_aload_n dX3_init_0 rfl ?_
  refine an_obj ol_X3_1 (Nat.le_of_ble_eq_true rfl) ⟨Nat.le_of_ble_eq_true rfl, Nat.le_of_ble_eq_true rfl⟩ dX3_init_1 ?_
  refine an_aload_n dX3_init_4 rfl ?_
  refine an_new tyX0 ingX0 tyX0_ok (ci := 0) (fs := [.int 0, .int 0, .int 0, .int 0, .int 0, .int 0]) rfl bl_X0 nl_X3_7 ⟨by simp only; omega, by simp only; omega⟩ dX3_init_5 ?_
  refine an_dup dX3_init_8 rfl ?_
  refine an_init (n_X0 _) rfl ci_X3_9 rfl rfl (Nat.le_of_ble_eq_true rfl) ⟨Nat.le_of_ble_eq_true rfl, Nat.le_of_ble_eq_true rfl⟩ ⟨by simp only; omega, by simp only; omega⟩ dX3_init_9 ?_
  refine an_put ingX3 tyX3_ok nmX3 (ci := 2) (k := 0) rfl (by decide) rfl rfl rfl rfl (q0 := 0) (by omega) rfl (Nat.le_of_ble_eq_true rfl) fl_X3_10 dX3_init_12 ?_
  refine an_aload_n dX3_init_15 rfl ?_
  refine an_new tyX0 ingX0 tyX0_ok (ci := 0) (fs := [.int 0, .int 0, .int 0, .int 0, .int 0, .int 0]) rfl bl_X0 nl_X3_7 ⟨by simp only; omega, by simp only; omega⟩ dX3_init_16 ?_
  refine an_dup dX3_init_19 rfl ?_
  refine an_init (n_X0 _) rfl ci_X3_9 rfl rfl (Nat.le_of_ble_eq_true rfl) ⟨Nat.le_of_ble_eq_true rfl, Nat.le_of_ble_eq_true rfl⟩ ⟨by simp only; omega, by simp only; omega⟩ dX3_init_20 ?_
  refine an_put ingX3 tyX3_ok nmX3 (ci := 2) (k := 1) rfl (by decide) rfl rfl rfl rfl (q0 := 0) (by omega) rfl (Nat.le_of_ble_eq_true rfl) fl_X3_16 dX3_init_23 ?_
  refine an_aload_n dX3_init_26 rfl ?_
  refine an_new tyX0 ingX0 tyX0_ok (ci := 0) (fs := [.int 0, .int 0, .int 0, .int 0, .int 0, .int 0]) rfl bl_X0 nl_X3_7 ⟨by simp only; omega, by simp only; omega⟩ dX3_init_27 ?_
  refine an_dup dX3_init_30 rfl ?_
  refine an_init (n_X0 _) rfl ci_X3_9 rfl rfl (Nat.le_of_ble_eq_true rfl) ⟨Nat.le_of_ble_eq_true rfl, Nat.le_of_ble_eq_true rfl⟩ ⟨by simp only; omega, by simp only; omega⟩ dX3_init_31 ?_
  refine an_put ingX3 tyX3_ok nmX3 (ci := 2) (k := 2) rfl (by decide) rfl rfl rfl rfl (q0 := 0) (by omega) rfl (Nat.le_of_ble_eq_true rfl) fl_X3_19 dX3_init_34 ?_
  refine an_aload_n dX3_init_37 rfl ?_
  refine an_new tyX0 ingX0 tyX0_ok (ci := 0) (fs := [.int 0, .int 0, .int 0, .int 0, .int 0, .int 0]) rfl bl_X0 nl_X3_7 ⟨by simp only; omega, by simp only; omega⟩ dX3_init_38 ?_
  refine an_dup dX3_init_41 rfl ?_
  refine an_init (n_X0 _) rfl ci_X3_9 rfl rfl (Nat.le_of_ble_eq_true rfl) ⟨Nat.le_of_ble_eq_true rfl, Nat.le_of_ble_eq_true rfl⟩ ⟨by simp only; omega, by simp only; omega⟩ dX3_init_42 ?_
  refine an_put ingX3 tyX3_ok nmX3 (ci := 2) (k := 3) rfl (by decide) rfl rfl rfl rfl (q0 := 0) (by omega) rfl (Nat.le_of_ble_eq_true rfl) fl_X3_22 dX3_init_45 ?_
  refine an_aload_n dX3_init_48 rfl ?_
  refine an_new tyX0 ingX0 tyX0_ok (ci := 0) (fs := [.int 0, .int 0, .int 0, .int 0, .int 0, .int 0]) rfl bl_X0 nl_X3_7 ⟨by simp only; omega, by simp only; omega⟩ dX3_init_49 ?_
  refine an_dup dX3_init_52 rfl ?_
  refine an_init (n_X0 _) rfl ci_X3_9 rfl rfl (Nat.le_of_ble_eq_true rfl) ⟨Nat.le_of_ble_eq_true rfl, Nat.le_of_ble_eq_true rfl⟩ ⟨by simp only; omega, by simp only; omega⟩ dX3_init_53 ?_
  refine an_put ingX3 tyX3_ok nmX3 (ci := 2) (k := 4) rfl (by decide) rfl rfl rfl rfl (q0 := 0) (by omega) rfl (Nat.le_of_ble_eq_true rfl) fl_X3_25 dX3_init_56 ?_
  refine an_F (G := frmZ a) (fun p hp => by rcases (show p = 0 ∨ p = 1 ∨ p = 2 ∨ p = 3 ∨ p = 4 ∨ p = 5 by omega) with rfl | rfl | rfl | rfl | rfl | rfl <;> rfl) ?_
  exact an_ret dX3_init_59 rfl ⟨by omega, by omega⟩
set_option maxRecDepth 100000 in
set_option maxHeartbeats 4000000 in
theorem n_X4 {l : Launch} {D : va_G} {cy : Nat → ClassId} (x : Int32) (N : Nat) (hx : x = nI N) (hN : N ≤ 2048) (a : Nat) : CN l D cy yX4_init cX4_init 2 1 20 2 (2 * N) [.int x] a (.inr (3, [.null, .null, .int 0, .int 0, .int 0, .int 0, .int 0, .int 0, .int 0])) (hepZ cy N a) := by
  refine cn_of (by decide +kernel) (own := RX4) rfl rfl (Nat.le_of_ble_eq_true rfl) (L := [some (.ref a), some (.int x)]) rfl (fun Γ => ?_)
  refine an_aload_n dX4_init_0 rfl ?_
  refine an_obj ol_X4_3 (Nat.le_of_ble_eq_true rfl) ⟨Nat.le_of_ble_eq_true rfl, Nat.le_of_ble_eq_true rfl⟩ dX4_init_1 ?_
  refine an_aload_n dX4_init_4 rfl ?_
  refine an_iconst (v := -1) dX4_init_5 (by decide) ?_
  refine an_put ingX4 tyX4_ok nmX4 (ci := 3) (k := 7) rfl (by decide) rfl rfl (vp_nar_int _) rfl (q0 := 0) (by omega) rfl (Nat.le_of_ble_eq_true rfl) fl_X4_9 dX4_init_6 ?_
  refine an_aload_n dX4_init_9 rfl ?_
  refine an_iload_n dX4_init_10 rfl ?_
  refine an_newaI (N := N) (hx ▸ nI_pos (by omega)) (hx ▸ nI_clamp (by omega)) (by omega) ⟨by simp only; omega, by simp only; omega⟩ dX4_init_11 ?_
  refine an_put ingX4 tyX4_ok nmX4 (ci := 3) (k := 0) rfl (by decide) rfl rfl rfl rfl (q0 := 0) (by omega) rfl (Nat.le_of_ble_eq_true rfl) fl_X4_15 dX4_init_13 ?_
  refine an_aload_n dX4_init_16 rfl ?_
  refine an_iload_n dX4_init_17 rfl ?_
  refine an_newaI (N := N) (hx ▸ nI_pos (by omega)) (hx ▸ nI_clamp (by omega)) (by omega) ⟨by simp only; omega, by simp only; omega⟩ dX4_init_18 ?_
  refine an_put ingX4 tyX4_ok nmX4 (ci := 3) (k := 1) rfl (by decide) rfl rfl rfl rfl (q0 := 0) (by omega) rfl (Nat.le_of_ble_eq_true rfl) fl_X4_19 dX4_init_20 ?_
  refine an_F (G := hepZ cy N a) (fun p hp => by rcases (show p = 0 ∨ p = 1 ∨ p = 2 by omega) with rfl | rfl | rfl <;> rfl) ?_
  exact an_ret dX4_init_23 rfl ⟨by omega, by omega⟩
set_option maxRecDepth 100000 in
set_option maxHeartbeats 4000000 in
theorem n_X5 {l : Launch} {D : va_G} {cy : Nat → ClassId}  (a : Nat) : CN l D cy yX5_init cX5_init 1 1 20 1 5000 [] a (.inr (4, [.null, .int 0, .int 0, .int 0, .int 0, .int 0, .int 0, .int 0, .int 0, .int 0])) (ldrZ cy a) := by
  refine cn_of (by decide +kernel) (own := RX5) rfl rfl (Nat.le_of_ble_eq_true rfl) (L := [some (.ref a)]) rfl (fun Γ => ?_)
  refine an_aload_n dX5_init_0 rfl ?_
  refine an_obj ol_X5_3 (Nat.le_of_ble_eq_true rfl) ⟨Nat.le_of_ble_eq_true rfl, Nat.le_of_ble_eq_true rfl⟩ dX5_init_1 ?_
  refine an_aload_n dX5_init_4 rfl ?_
  refine an_sipush (v := 5000) dX5_init_5 (by decide) ?_
  refine an_newaB (N := 5000) (by decide) (by decide) (by decide) ⟨by simp only; omega, by simp only; omega⟩ dX5_init_8 ?_
  refine an_put ingX5 tyX5_ok nmX5 (ci := 4) (k := 0) rfl (by decide) rfl rfl rfl rfl (q0 := 0) (by omega) rfl (Nat.le_of_ble_eq_true rfl) fl_X5_11 dX5_init_10 ?_
  refine an_aload_n dX5_init_13 rfl ?_
  refine an_iconst (v := -1) dX5_init_14 (by decide) ?_
  refine an_put ingX5 tyX5_ok nmX5 (ci := 4) (k := 5) rfl (by decide) rfl rfl (vp_nar_int _) rfl (q0 := 0) (by omega) rfl (Nat.le_of_ble_eq_true rfl) fl_X5_15 dX5_init_15 ?_
  refine an_F (G := ldrZ cy a) (fun p hp => by rcases (show p = 0 ∨ p = 1 by omega) with rfl | rfl <;> rfl) ?_
  exact an_ret dX5_init_18 rfl ⟨by omega, by omega⟩
set_option maxRecDepth 100000 in
set_option maxHeartbeats 4000000 in
theorem n_X6 {l : Launch} {D : va_G} {cy : Nat → ClassId} (x : Int32) (N : Nat) (hx : x = nI N) (hN : N ≤ 2048) (a : Nat) : CN l D cy yX6_init cX6_init 2 1 20 1 N [.int x] a (.inr (5, [.null, .int 0, .int 0])) (rngZ cy N a) := by
  refine cn_of (by decide +kernel) (own := RX6) rfl rfl (Nat.le_of_ble_eq_true rfl) (L := [some (.ref a), some (.int x)]) rfl (fun Γ => ?_)
  refine an_aload_n dX6_init_0 rfl ?_
  refine an_obj ol_X6_3 (Nat.le_of_ble_eq_true rfl) ⟨Nat.le_of_ble_eq_true rfl, Nat.le_of_ble_eq_true rfl⟩ dX6_init_1 ?_
  refine an_aload_n dX6_init_4 rfl ?_
  refine an_iload_n dX6_init_5 rfl ?_
  refine an_newaB (N := N) (hx ▸ nI_pos (by omega)) (hx ▸ nI_clamp (by omega)) (by omega) ⟨by simp only; omega, by simp only; omega⟩ dX6_init_6 ?_
  refine an_put ingX6 tyX6_ok nmX6 (ci := 5) (k := 0) rfl (by decide) rfl rfl rfl rfl (q0 := 0) (by omega) rfl (Nat.le_of_ble_eq_true rfl) fl_X6_9 dX6_init_8 ?_
  refine an_F (G := rngZ cy N a) (fun p hp => by rcases (show p = 0 ∨ p = 1 by omega) with rfl | rfl <;> rfl) ?_
  exact an_ret dX6_init_11 rfl ⟨by omega, by omega⟩
set_option maxRecDepth 100000 in
set_option maxHeartbeats 4000000 in
theorem n_X8 {l : Launch} {D : va_G} {cy : Nat → ClassId} (x : Int32) (N : Nat) (hx : x = nI N) (hN : N ≤ 2048) (a : Nat) : CN l D cy yX8_init cX8_init 2 1 20 2 (17 * N) [.int x] a (.inr (6, [.null, .null])) (stoZ cy N a) := by
  refine cn_of (by decide +kernel) (own := RX8) rfl rfl (Nat.le_of_ble_eq_true rfl) (L := [some (.ref a), some (.int x)]) rfl (fun Γ => ?_)
  have h16 : x * 16 = nI (16 * N) := by rw [hx, show (16 : Int32) = nI 16 from rfl, pk_mul, Nat.mul_comm]
  refine an_aload_n dX8_init_0 rfl ?_
  refine an_obj ol_X8_3 (Nat.le_of_ble_eq_true rfl) ⟨Nat.le_of_ble_eq_true rfl, Nat.le_of_ble_eq_true rfl⟩ dX8_init_1 ?_
  refine an_aload_n dX8_init_4 rfl ?_
  refine an_iload_n dX8_init_5 rfl ?_
  refine an_bipush (v := 16) dX8_init_6 (by decide) ?_
  refine an_imul dX8_init_8 ?_
  refine an_newaB (N := (16 * N)) (h16 ▸ nI_pos (by omega)) (h16 ▸ nI_clamp (by omega)) (by omega) ⟨by simp only; omega, by simp only; omega⟩ dX8_init_9 ?_
  refine an_put ingX8 tyX8_ok nmX8 (ci := 6) (k := 0) rfl (by decide) rfl rfl rfl rfl (q0 := 0) (by omega) rfl (Nat.le_of_ble_eq_true rfl) fl_X8_9 dX8_init_11 ?_
  refine an_aload_n dX8_init_14 rfl ?_
  refine an_iload_n dX8_init_15 rfl ?_
  refine an_newaB (N := N) (hx ▸ nI_pos (by omega)) (hx ▸ nI_clamp (by omega)) (by omega) ⟨by simp only; omega, by simp only; omega⟩ dX8_init_16 ?_
  refine an_put ingX8 tyX8_ok nmX8 (ci := 6) (k := 1) rfl (by decide) rfl rfl rfl rfl (q0 := 0) (by omega) rfl (Nat.le_of_ble_eq_true rfl) fl_X8_15 dX8_init_18 ?_
  refine an_F (G := stoZ cy N a) (fun p hp => by rcases (show p = 0 ∨ p = 1 ∨ p = 2 by omega) with rfl | rfl | rfl <;> rfl) ?_
  exact an_ret dX8_init_21 rfl ⟨by omega, by omega⟩
