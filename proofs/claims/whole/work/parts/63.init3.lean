def wldZ (cy : Nat → ClassId) (N i j a p : Nat) : va_E :=
  if p = 0 then .inr (8, [.ref (a + 8), .ref (a + 11), .ref (a + 1), .ref (a + 3), .ref (a + 5), .ref (a + 6), .ref (a + 7), .int 0, .int 0, .int 0, .int 0, .int (-1), .int 0, .int 0, .int 0, .int 0, .int 0])
  else if p < 3 then rngZ cy 64 (a + 1) (p - 1) else if p < 5 then rngZ cy 500 (a + 3) (p - 3)
  else if p = 5 then .inl (cy 4, 8, .inr (.inr (.inr (.inr (fun k => if k < i then some (a + (14 + 3 * k)) else none)))))
  else if p = 6 then .inl (cy 6, 6, .inr (.inr (.inr (.inr (fun k => if k < j then some (a + (38 + 116 * k)) else none)))))
  else if p = 7 then capZ else if p < 11 then stoZ cy N (a + 8) (p - 8) else if p < 14 then hepZ cy N (a + 11) (p - 11)
  else if p < 38 then cmpZ cy (a + (14 + 3 * ((p - 14) / 3))) ((p - 14) % 3)
  else tskZ cy (nI ((p - 38) / 116)) 16 16 (a + (38 + 116 * ((p - 38) / 116))) ((p - 38) % 116)
set_option maxRecDepth 100000 in
set_option maxHeartbeats 4000000 in
theorem n_X10 {l : Launch} {D : va_G} {cy : Nat → ClassId} (x : Int32) (N : Nat) (hx : x = nI N) (hN : N ≤ 2048) (a : Nat) : CN l D cy yX10_init cX10_init 3 4 82 733 (5295 + 19 * N) [.int x] a (.inr (8, [.null, .null, .null, .null, .null, .null, .null, .int 0, .int 0, .int 0, .int 0, .int 0, .int 0, .int 0, .int 0, .int 0, .int 0])) (wldZ cy N 8 6 a) := by
  refine cn_of (by decide +kernel) (own := RX10) rfl rfl (Nat.le_of_ble_eq_true rfl) (L := [some (.ref a), some (.int x), none]) rfl (fun Γ => ?_)
  refine an_aload_n dX10_init_0 rfl ?_
  refine an_obj ol_X10_3 (Nat.le_of_ble_eq_true rfl) ⟨Nat.le_of_ble_eq_true rfl, Nat.le_of_ble_eq_true rfl⟩ dX10_init_1 ?_
  refine an_aload_n dX10_init_4 rfl ?_
  refine an_new tyX6 ingX6 tyX6_ok (ci := 5) (fs := [.null, .int 0, .int 0]) rfl bl_X6 nl_X10_9 ⟨by simp only; omega, by simp only; omega⟩ dX10_init_5 ?_
  refine an_dup dX10_init_8 rfl ?_
  refine an_bipush (v := 64) dX10_init_9 (by decide) ?_
  refine an_init (n_X6 64 64 rfl (by decide) _) rfl ci_X10_11 rfl rfl (Nat.le_of_ble_eq_true rfl) ⟨Nat.le_of_ble_eq_true rfl, Nat.le_of_ble_eq_true rfl⟩ ⟨by simp only; omega, by simp only; omega⟩ dX10_init_11 ?_
  refine an_put ingX10 tyX10_ok nmX10 (ci := 8) (k := 2) rfl (by decide) rfl rfl rfl rfl (q0 := 0) (by omega) rfl (Nat.le_of_ble_eq_true rfl) fl_X10_14 dX10_init_14 ?_
  refine an_aload_n dX10_init_17 rfl ?_
  refine an_new tyX6 ingX6 tyX6_ok (ci := 5) (fs := [.null, .int 0, .int 0]) rfl bl_X6 nl_X10_9 ⟨by simp only; omega, by simp only; omega⟩ dX10_init_18 ?_
  refine an_dup dX10_init_21 rfl ?_
  refine an_sipush (v := 500) dX10_init_22 (by decide) ?_
  refine an_init (n_X6 500 500 rfl (by decide) _) rfl ci_X10_11 rfl rfl (Nat.le_of_ble_eq_true rfl) ⟨Nat.le_of_ble_eq_true rfl, Nat.le_of_ble_eq_true rfl⟩ ⟨by simp only; omega, by simp only; omega⟩ dX10_init_25 ?_
  refine an_put ingX10 tyX10_ok nmX10 (ci := 8) (k := 3) rfl (by decide) rfl rfl rfl rfl (q0 := 0) (by omega) rfl (Nat.le_of_ble_eq_true rfl) fl_X10_20 dX10_init_28 ?_
  refine an_aload_n dX10_init_31 rfl ?_
  refine an_bipush (v := 8) dX10_init_32 (by decide) ?_
  refine an_anew (ti := 4) (N := 8) rfl (nl_X10_23).1 (fun U h => h.2.1) (by decide) (by decide) (by decide) ⟨by simp only; omega, by simp only; omega⟩ dX10_init_34 ?_
  refine an_put ingX10 tyX10_ok nmX10 (ci := 8) (k := 4) rfl (by decide) rfl rfl rfl rfl (q0 := 0) (by omega) rfl (Nat.le_of_ble_eq_true rfl) fl_X10_25 dX10_init_37 ?_
  refine an_aload_n dX10_init_40 rfl ?_
  refine an_bipush (v := 6) dX10_init_41 (by decide) ?_
  refine an_anew (ti := 6) (N := 6) rfl (nl_X10_29).1 (fun U h => h.2.2.2) (by decide) (by decide) (by decide) ⟨by simp only; omega, by simp only; omega⟩ dX10_init_43 ?_
  refine an_put ingX10 tyX10_ok nmX10 (ci := 8) (k := 5) rfl (by decide) rfl rfl rfl rfl (q0 := 0) (by omega) rfl (Nat.le_of_ble_eq_true rfl) fl_X10_31 dX10_init_46 ?_
  refine an_aload_n dX10_init_49 rfl ?_
  refine an_new tyX0 ingX0 tyX0_ok (ci := 0) (fs := [.int 0, .int 0, .int 0, .int 0, .int 0, .int 0]) rfl bl_X0 nl_X10_35 ⟨by simp only; omega, by simp only; omega⟩ dX10_init_50 ?_
  refine an_dup dX10_init_53 rfl ?_
  refine an_init (n_X0 _) rfl ci_X10_37 rfl rfl (Nat.le_of_ble_eq_true rfl) ⟨Nat.le_of_ble_eq_true rfl, Nat.le_of_ble_eq_true rfl⟩ ⟨by simp only; omega, by simp only; omega⟩ dX10_init_54 ?_
  refine an_put ingX10 tyX10_ok nmX10 (ci := 8) (k := 6) rfl (by decide) rfl rfl rfl rfl (q0 := 0) (by omega) rfl (Nat.le_of_ble_eq_true rfl) fl_X10_38 dX10_init_57 ?_
  refine an_aload_n dX10_init_60 rfl ?_
  refine an_iconst (v := -1) dX10_init_61 (by decide) ?_
  refine an_put ingX10 tyX10_ok nmX10 (ci := 8) (k := 11) rfl (by decide) rfl rfl (vp_nar_int _) rfl (q0 := 0) (by omega) rfl (Nat.le_of_ble_eq_true rfl) fl_X10_42 dX10_init_62 ?_
  refine an_aload_n dX10_init_65 rfl ?_
  refine an_new tyX8 ingX8 tyX8_ok (ci := 6) (fs := [.null, .null]) rfl bl_X8 nl_X10_46 ⟨by simp only; omega, by simp only; omega⟩ dX10_init_66 ?_
  refine an_dup dX10_init_69 rfl ?_
  refine an_iload_n dX10_init_70 rfl ?_
  refine an_init (n_X8 x N hx hN _) rfl ci_X10_48 rfl rfl (Nat.le_of_ble_eq_true rfl) ⟨Nat.le_of_ble_eq_true rfl, Nat.le_of_ble_eq_true rfl⟩ ⟨by simp only; omega, by simp only; omega⟩ dX10_init_71 ?_
  refine an_put ingX10 tyX10_ok nmX10 (ci := 8) (k := 0) rfl (by decide) rfl rfl rfl rfl (q0 := 0) (by omega) rfl (Nat.le_of_ble_eq_true rfl) fl_X10_49 dX10_init_74 ?_
  refine an_aload_n dX10_init_77 rfl ?_
  refine an_new tyX4 ingX4 tyX4_ok (ci := 3) (fs := [.null, .null, .int 0, .int 0, .int 0, .int 0, .int 0, .int 0, .int 0]) rfl bl_X4 nl_X10_53 ⟨by simp only; omega, by simp only; omega⟩ dX10_init_78 ?_
  refine an_dup dX10_init_81 rfl ?_
  refine an_iload_n dX10_init_82 rfl ?_
  refine an_init (n_X4 x N hx hN _) rfl ci_X10_55 rfl rfl (Nat.le_of_ble_eq_true rfl) ⟨Nat.le_of_ble_eq_true rfl, Nat.le_of_ble_eq_true rfl⟩ ⟨by simp only; omega, by simp only; omega⟩ dX10_init_83 ?_
  refine an_put ingX10 tyX10_ok nmX10 (ci := 8) (k := 1) rfl (by decide) rfl rfl rfl rfl (q0 := 0) (by omega) rfl (Nat.le_of_ble_eq_true rfl) fl_X10_56 dX10_init_86 ?_
  refine an_iconst (v := 0) dX10_init_89 (by decide) ?_
  refine an_istore_n (L' := [some (.ref a), some (.int x), some (.int (nI 0))]) dX10_init_90 (by decide) rfl ?_
  refine an_n (n' := 14) rfl ?_
  refine an_F (G := wldZ cy N 0 0 a) (fun p hp => by rcases (show p = 0 ∨ p = 1 ∨ p = 2 ∨ p = 3 ∨ p = 4 ∨ p = 5 ∨ p = 6 ∨ p = 7 ∨ p = 8 ∨ p = 9 ∨ p = 10 ∨ p = 11 ∨ p = 12 ∨ p = 13 by omega) with rfl | rfl | rfl | rfl | rfl | rfl | rfl | rfl | rfl | rfl | rfl | rfl | rfl | rfl <;> simp [wldZ, va_up, capZ, rngZ, stoZ, hepZ]) ?_
  refine an_cs (c' := 13 + 3 * 0) (s' := 601 + 19 * N + 28 * 0) (by omega) (by omega) ?_
  have lp2 : ∀ k j, j + k = 6 → AN Γ l { frames := 4, cells := 733, slots := (5295 + 19 * N), locals := 82 } D cy cX10_init RX10 3 none (QN D a 733 (5295 + 19 * N) (wldZ cy N 8 6 a)) a true 118 [some (.ref a), some (.int x), some (.int (nI j))] [] (38 + 116 * j) (wldZ cy N 8 j a) (37 + 116 * j) (825 + 19 * N + 745 * j) := by
    intro k
    induction k with
    | zero =>
      intro j hj
      have hj' : j = 6 := by omega
      subst hj'
      refine an_iload_n dX10_init_118 rfl ?_
      refine an_bipush (v := 6) dX10_init_119 (by decide) ?_
      refine an_icmp_ge (tgt := 144) dX10_init_121 (by decide) (fun h => ?_) (fun h => absurd (by decide) h)
      exact an_ret dX10_init_144 rfl ⟨by omega, by omega⟩
    | succ k ih =>
      intro j hj
      refine an_iload_n dX10_init_118 rfl ?_
      refine an_bipush (v := 6) dX10_init_119 (by decide) ?_
      refine an_icmp_ge (tgt := 144) dX10_init_121 (by decide) (fun h => absurd h (nI_ge (b := 6) (by omega) (by decide))) (fun h => ?_)
      refine an_aload_n dX10_init_124 rfl ?_
      refine an_get ingX10 (ci := 8) (k := 5) rfl (by decide) (q0 := 0) (by omega) rfl rfl fl_X10_31 dX10_init_125 ?_
      refine an_iload_n dX10_init_128 rfl ?_
      refine an_new tyX9 ingX9 tyX9_ok (ci := 7) (fs := [.int 0, .null, .null, .null, .int 0, .int 0, .int 0, .int 0, .int 0, .int 0, .int 0, .int 0, .int 0, .int 0, .int 0, .int 0, .int 0, .int 0, .int 0]) rfl bl_X9 nl_X10_29 ⟨by simp only; omega, by simp only; omega⟩ dX10_init_129 ?_
      refine an_dup dX10_init_132 rfl ?_
      refine an_iload_n dX10_init_133 rfl ?_
      refine an_init (n_X9 _ _) (by simp [va_up]) ci_X10_61 rfl rfl (Nat.le_of_ble_eq_true rfl) ⟨Nat.le_of_ble_eq_true rfl, Nat.le_of_ble_eq_true rfl⟩ ⟨by simp only; omega, by simp only; omega⟩ dX10_init_134 ?_
      refine an_aast (ti := 6) (q0 := 6) (qk := 38 + 116 * j) (ci := 7) (i := j) (N := 6) (r := (RX9, TX9, 19)) (f := fun k => if k < j then some (a + (38 + 116 * k)) else none) rfl rfl (by omega) (by omega) (by simp [show 6 < 38 + 116 * j by omega, va_up, show ¬ 6 = 38 + 116 * j by omega, wldZ]) (by simp [tskZ]; rfl) rfl (by omega) (by decide) dX10_init_137 ?_
      refine an_iinc (v := nI (j + 1)) (L' := [some (.ref a), some (.int x), some (.int (nI (j + 1)))]) dX10_init_138 rfl (nI_1 j) (by decide) rfl ?_
      refine an_goto (tgt := 118) dX10_init_141 (by decide) ?_
      refine an_n (n' := 38 + 116 * (j + 1)) (by omega) ?_
      refine an_cs (c' := 37 + 116 * (j + 1)) (s' := 825 + 19 * N + 745 * (j + 1)) (by omega) (by omega) ?_
      refine an_F (G := wldZ cy N 8 (j + 1) a) (fun p hp => ?_) (ih (j + 1) (by omega))
      rw [arr_up (fun k => a + (38 + 116 * k)) j]
      by_cases h6 : p = 6
      · subst h6
        simp [va_up, wldZ]
      · by_cases hlt : p < 38 + 116 * j
        · simp only [va_up, if_neg h6, if_pos hlt, if_neg (show ¬ p = 38 + 116 * j by omega)]
          simp only [wldZ, if_neg h6]
        · simp only [va_up, if_neg h6, if_neg hlt]
          simp only [wldZ, if_neg (show ¬ p = 0 by omega), if_neg (show ¬ p < 3 by omega), if_neg (show ¬ p < 5 by omega), if_neg (show ¬ p = 5 by omega), if_neg h6, if_neg (show ¬ p = 7 by omega), if_neg (show ¬ p < 11 by omega), if_neg (show ¬ p < 14 by omega), if_neg (show ¬ p < 38 by omega)]
          rw [show (p - 38) / 116 = j by omega, show (p - 38) % 116 = p - (38 + 116 * j) by omega]
  have lp1 : ∀ k i, i + k = 8 → AN Γ l { frames := 4, cells := 733, slots := (5295 + 19 * N), locals := 82 } D cy cX10_init RX10 3 none (QN D a 733 (5295 + 19 * N) (wldZ cy N 8 6 a)) a true 91 [some (.ref a), some (.int x), some (.int (nI i))] [] (14 + 3 * i) (wldZ cy N i 0 a) (13 + 3 * i) (601 + 19 * N + 28 * i) := by
    intro k
    induction k with
    | zero =>
      intro i hi
      have hi' : i = 8 := by omega
      subst hi'
      refine an_iload_n dX10_init_91 rfl ?_
      refine an_bipush (v := 8) dX10_init_92 (by decide) ?_
      refine an_icmp_ge (tgt := 116) dX10_init_94 (by decide) (fun h => ?_) (fun h => absurd (by decide) h)
      refine an_iconst (v := 0) dX10_init_116 (by decide) ?_
      refine an_istore_n (L' := [some (.ref a), some (.int x), some (.int (nI 0))]) dX10_init_117 (by decide) rfl ?_
      refine an_cs (c' := 37 + 116 * 0) (s' := 825 + 19 * N + 745 * 0) (by omega) (by omega) ?_
      exact lp2 6 0 rfl
    | succ k ih =>
      intro i hi
      refine an_iload_n dX10_init_91 rfl ?_
      refine an_bipush (v := 8) dX10_init_92 (by decide) ?_
      refine an_icmp_ge (tgt := 116) dX10_init_94 (by decide) (fun h => absurd h (nI_ge (b := 8) (by omega) (by decide))) (fun h => ?_)
      refine an_aload_n dX10_init_97 rfl ?_
      refine an_get ingX10 (ci := 8) (k := 4) rfl (by decide) (q0 := 0) (by omega) rfl rfl fl_X10_25 dX10_init_98 ?_
      refine an_iload_n dX10_init_101 rfl ?_
      refine an_new tyX1 ingX1 tyX1_ok (ci := 1) (fs := [.null, .null, .int 0, .int 0, .int 0, .int 0, .int 0, .int 0, .int 0, .int 0, .int 0, .int 0]) rfl bl_X1 nl_X10_23 ⟨by simp only; omega, by simp only; omega⟩ dX10_init_102 ?_
      refine an_dup dX10_init_105 rfl ?_
      refine an_init (n_X1 _) (by simp [va_up]) ci_X10_60 rfl rfl (Nat.le_of_ble_eq_true rfl) ⟨Nat.le_of_ble_eq_true rfl, Nat.le_of_ble_eq_true rfl⟩ ⟨by simp only; omega, by simp only; omega⟩ dX10_init_106 ?_
      refine an_aast (ti := 4) (q0 := 5) (qk := 14 + 3 * i) (ci := 1) (i := i) (N := 8) (r := (RX1, TX1, 12)) (f := fun k => if k < i then some (a + (14 + 3 * k)) else none) rfl rfl (by omega) (by omega) (by simp [show 5 < 14 + 3 * i by omega, va_up, show ¬ 5 = 14 + 3 * i by omega, wldZ]) (by simp [cmpZ]; rfl) rfl (by omega) (by decide) dX10_init_109 ?_
      refine an_iinc (v := nI (i + 1)) (L' := [some (.ref a), some (.int x), some (.int (nI (i + 1)))]) dX10_init_110 rfl (nI_1 i) (by decide) rfl ?_
      refine an_goto (tgt := 91) dX10_init_113 (by decide) ?_
      refine an_n (n' := 14 + 3 * (i + 1)) (by omega) ?_
      refine an_cs (c' := 13 + 3 * (i + 1)) (s' := 601 + 19 * N + 28 * (i + 1)) (by omega) (by omega) ?_
      refine an_F (G := wldZ cy N (i + 1) 0 a) (fun p hp => ?_) (ih (i + 1) (by omega))
      rw [arr_up (fun k => a + (14 + 3 * k)) i]
      by_cases h5 : p = 5
      · subst h5
        simp [va_up, wldZ]
      · by_cases hlt : p < 14 + 3 * i
        · simp only [va_up, if_neg h5, if_pos hlt, if_neg (show ¬ p = 14 + 3 * i by omega)]
          simp only [wldZ, if_neg h5]
        · simp only [va_up, if_neg h5, if_neg hlt]
          simp only [wldZ, if_neg (show ¬ p = 0 by omega), if_neg (show ¬ p < 3 by omega), if_neg (show ¬ p < 5 by omega), if_neg h5, if_neg (show ¬ p = 6 by omega), if_neg (show ¬ p = 7 by omega), if_neg (show ¬ p < 11 by omega), if_neg (show ¬ p < 14 by omega), if_pos (show p < 38 by omega)]
          rw [show (p - 14) / 3 = i by omega, show (p - 14) % 3 = p - (14 + 3 * i) by omega]
  exact lp1 8 0 rfl
def sgZ (cy : Nat → ClassId) (N a p : Nat) : va_E := if p = 0 then .inr (9, [.ref (a + 1), .ref (a + 735)]) else if p < 735 then wldZ cy N 8 6 (a + 1) (p - 1) else ldrZ cy (a + 735) (p - 735)
/-- how many kilobytes an object of this size has -/
def kbN (x : Int32) : Nat := if 1 ≤ x ∧ x ≤ 32 then x.toNatClampNeg else 8
theorem kbN_in (x : Int32) : 1 ≤ kbN x ∧ kbN x ≤ 32 := by
  unfold kbN
  split
  · rename_i h
    have h1 := Int32.le_iff_toInt_le.mp h.1
    have h2 := Int32.le_iff_toInt_le.mp h.2
    rw [show (1 : Int32).toInt = 1 from rfl] at h1
    rw [show (32 : Int32).toInt = 32 from rfl] at h2
    have h3 : x.toNatClampNeg = x.toInt.toNat := rfl
    omega
  · omega
theorem kbN_nI {x : Int32} (h1 : 1 ≤ x) (h2 : x ≤ 32) : x = nI (kbN x) := by
  unfold kbN
  rw [if_pos ⟨h1, h2⟩]
  have h3 := Int32.le_iff_toInt_le.mp h1
  rw [show (1 : Int32).toInt = 1 from rfl] at h3
  obtain ⟨j, hj, rfl⟩ := nI_of (x := x) (by rw [Int32.lt_iff_toInt_lt]; simp; omega)
  rw [nI_clamp hj]
set_option maxRecDepth 100000 in
set_option maxHeartbeats 4000000 in
theorem n_X11 {l : Launch} {D : va_G} {cy : Nat → ClassId} (x : Int32) (a : Nat) : CN l D cy yX11_init cX11_init 3 5 104 736 60000 [.int x] a (.inr (9, [.null, .null])) (sgZ cy (64 * kbN x) a) := by
  refine cn_of (by decide +kernel) (own := RX11) rfl rfl (Nat.le_of_ble_eq_true rfl) (L := [some (.ref a), some (.int x), none]) rfl (fun Γ => ?_)
  refine an_aload_n dX11_init_0 rfl ?_
  refine an_obj ol_X11_3 (Nat.le_of_ble_eq_true rfl) ⟨Nat.le_of_ble_eq_true rfl, Nat.le_of_ble_eq_true rfl⟩ dX11_init_1 ?_
  have tail : AN Γ l { frames := 5, cells := 736, slots := 60000, locals := 104 } D cy cX11_init RX11 3 none (QN D a 736 60000 (sgZ cy (64 * kbN x) a)) a true 21 [some (.ref a), some (.int x), none] [.int (nI (kbN x))] 1 (fun _ => .inr (9, [.null, .null])) 0 0 := by
    have hk := kbN_in x
    refine an_istore_n (L' := [some (.ref a), some (.int x), some (.int (nI (kbN x)))]) dX11_init_21 (by decide) rfl ?_
    refine an_aload_n dX11_init_22 rfl ?_
    refine an_new tyX10 ingX10 tyX10_ok (ci := 8) (fs := [.null, .null, .null, .null, .null, .null, .null, .int 0, .int 0, .int 0, .int 0, .int 0, .int 0, .int 0, .int 0, .int 0, .int 0]) rfl bl_X10 nl_X11_9 ⟨by simp only; omega, by simp only; omega⟩ dX11_init_23 ?_
    refine an_dup dX11_init_26 rfl ?_
    refine an_iload_n dX11_init_27 rfl ?_
    refine an_sipush (v := 1024) dX11_init_28 (by decide) ?_
    refine an_imul dX11_init_31 ?_
    refine an_bipush (v := 16) dX11_init_32 (by decide) ?_
    refine an_idiv dX11_init_34 (by decide) ?_
    have hd : nI (kbN x) * 1024 / 16 = nI (64 * kbN x) := by
      rw [show (1024 : Int32) = nI 1024 from rfl, pk_mul, show (16 : Int32) = nI 16 from rfl, pk_div (by omega) (by decide) (by decide)]
      congr 1
      omega
    refine an_init (n_X10 _ (64 * kbN x) hd (by omega) _) rfl ci_X11_11 rfl rfl (Nat.le_of_ble_eq_true rfl) ⟨Nat.le_of_ble_eq_true rfl, Nat.le_of_ble_eq_true rfl⟩ ⟨by simp only; omega, by simp only; omega⟩ dX11_init_35 ?_
    refine an_put ingX11 tyX11_ok nmX11 (ci := 9) (k := 0) rfl (by decide) rfl rfl rfl rfl (q0 := 0) (by omega) rfl (Nat.le_of_ble_eq_true rfl) fl_X11_14 dX11_init_38 ?_
    refine an_aload_n dX11_init_41 rfl ?_
    refine an_new tyX5 ingX5 tyX5_ok (ci := 4) (fs := [.null, .int 0, .int 0, .int 0, .int 0, .int 0, .int 0, .int 0, .int 0, .int 0]) rfl bl_X5 nl_X11_18 ⟨by simp only; omega, by simp only; omega⟩ dX11_init_42 ?_
    refine an_dup dX11_init_45 rfl ?_
    refine an_init (n_X5 _) rfl ci_X11_20 rfl rfl (Nat.le_of_ble_eq_true rfl) ⟨Nat.le_of_ble_eq_true rfl, Nat.le_of_ble_eq_true rfl⟩ ⟨by simp only; omega, by simp only; omega⟩ dX11_init_46 ?_
    refine an_put ingX11 tyX11_ok nmX11 (ci := 9) (k := 1) rfl (by decide) rfl rfl rfl rfl (q0 := 0) (by omega) rfl (Nat.le_of_ble_eq_true rfl) fl_X11_21 dX11_init_49 ?_
    refine an_n (n' := 1 + 736) (by omega) ?_
    refine an_F (G := sgZ cy (64 * kbN x) a) (fun p hp => ?_) (an_ret dX11_init_52 rfl ⟨by omega, by omega⟩)
    by_cases h0 : p = 0
    · subst h0
      simp [va_up, sgZ]
    · by_cases hlt : p < 735
      · simp only [va_up, if_neg h0, if_pos (show p < 1 + 1 + 733 by omega), if_neg (show ¬ p = 1 + 1 + 733 by omega), if_neg (show ¬ p < 1 by omega), sgZ, if_pos hlt]
      · simp only [va_up, if_neg h0, if_neg (show ¬ p < 1 + 1 + 733 by omega), sgZ, if_neg hlt]
  refine an_iload_n dX11_init_4 rfl ?_
  refine an_iconst (v := 1) dX11_init_5 (by decide) ?_
  have t8 : ¬ (1 ≤ x ∧ x ≤ 32) → nI (kbN x) = 8 := fun h => by unfold kbN; rw [if_neg h]; rfl
  refine an_icmp_lt (tgt := 19) dX11_init_6 (by decide) (fun h => ?_) (fun h => ?_)
  · refine an_bipush (v := nI (kbN x)) dX11_init_19 (by rw [t8 (fun q => absurd h (Int32.not_lt.mpr q.1))]; decide) ?_
    exact tail
  · refine an_iload_n dX11_init_9 rfl ?_
    refine an_bipush (v := 32) dX11_init_10 (by decide) ?_
    refine an_icmp_gt (tgt := 19) dX11_init_12 (by decide) (fun h2 => ?_) (fun h2 => ?_)
    · refine an_bipush (v := nI (kbN x)) dX11_init_19 (by rw [t8 (fun q => absurd h2 (Int32.not_lt.mpr q.2))]; decide) ?_
      exact tail
    · have hx := kbN_nI (Int32.not_lt.mp h) (Int32.not_lt.mp h2)
      refine an_iload_n (x := nI (kbN x)) dX11_init_15 (by rw [← hx]; rfl) ?_
      refine an_goto (tgt := 21) dX11_init_16 (by decide) ?_
      exact tail
