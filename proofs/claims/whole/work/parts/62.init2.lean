theorem an_cs {Γ : Cx} {l : Launch} {R : Room} {D : va_G} {cy : Nat → ClassId} {cc : ByteArray} {own : String} {nL : Nat} {ret : Option FieldType} {Q : Cx → State → Prop} {a : Nat} {ini : Bool} {pc : Nat} {L : List (Option Value)} {st : List Value} {n : Nat} {F : Nat → va_E} {cells slots c' s' : Nat} (h1 : cells = c') (h2 : slots = s') (k : AN Γ l R D cy cc own nL ret Q a ini pc L st n F c' s') : AN Γ l R D cy cc own nL ret Q a ini pc L st n F cells slots := by subst h1; subst h2; exact k
theorem arr_up (g : Nat → Nat) (j : Nat) : va_up (fun k => if k < j then some (g k) else none) j (some (g j)) = fun k => if k < j + 1 then some (g k) else none := by
  funext k
  unfold va_up
  by_cases h : k = j
  · subst h
    simp
  · by_cases h2 : k < j
    · simp [h, h2, Nat.lt_succ_of_lt h2]
    · simp [h, h2, show ¬ k < j + 1 by omega]
set_option maxRecDepth 100000 in
set_option maxHeartbeats 4000000 in
theorem n_X9 {l : Launch} {D : va_G} {cy : Nat → ClassId} (x : Int32) (a : Nat) : CN l D cy yX9_init cX9_init 3 3 60 115 726 [.int x] a (.inr (7, [.int 0, .null, .null, .null, .int 0, .int 0, .int 0, .int 0, .int 0, .int 0, .int 0, .int 0, .int 0, .int 0, .int 0, .int 0, .int 0, .int 0, .int 0])) (tskZ cy x 16 16 a) := by
  refine cn_of (by decide +kernel) (own := RX9) rfl rfl (Nat.le_of_ble_eq_true rfl) (L := [some (.ref a), some (.int x), none]) rfl (fun Γ => ?_)
  refine an_aload_n dX9_init_0 rfl ?_
  refine an_obj ol_X9_3 (Nat.le_of_ble_eq_true rfl) ⟨Nat.le_of_ble_eq_true rfl, Nat.le_of_ble_eq_true rfl⟩ dX9_init_1 ?_
  refine an_aload_n dX9_init_4 rfl ?_
  refine an_bipush (v := 16) dX9_init_5 (by decide) ?_
  refine an_anew (ti := 3) (N := 16) rfl (nl_X9_11).1 (fun U h => h.1) (by decide) (by decide) (by decide) ⟨by simp only; omega, by simp only; omega⟩ dX9_init_7 ?_
  refine an_put ingX9 tyX9_ok nmX9 (ci := 7) (k := 1) rfl (by decide) rfl rfl rfl rfl (q0 := 0) (by omega) rfl (Nat.le_of_ble_eq_true rfl) fl_X9_13 dX9_init_10 ?_
  refine an_aload_n dX9_init_13 rfl ?_
  refine an_new tyX0 ingX0 tyX0_ok (ci := 0) (fs := [.int 0, .int 0, .int 0, .int 0, .int 0, .int 0]) rfl bl_X0 nl_X9_11 ⟨by simp only; omega, by simp only; omega⟩ dX9_init_14 ?_
  refine an_dup dX9_init_17 rfl ?_
  refine an_init (n_X0 _) rfl ci_X9_17 rfl rfl (Nat.le_of_ble_eq_true rfl) ⟨Nat.le_of_ble_eq_true rfl, Nat.le_of_ble_eq_true rfl⟩ ⟨by simp only; omega, by simp only; omega⟩ dX9_init_18 ?_
  refine an_put ingX9 tyX9_ok nmX9 (ci := 7) (k := 2) rfl (by decide) rfl rfl rfl rfl (q0 := 0) (by omega) rfl (Nat.le_of_ble_eq_true rfl) fl_X9_18 dX9_init_21 ?_
  refine an_aload_n dX9_init_24 rfl ?_
  refine an_bipush (v := 16) dX9_init_25 (by decide) ?_
  refine an_anew (ti := 5) (N := 16) rfl (nl_X9_22).1 (fun U h => h.2.2.1) (by decide) (by decide) (by decide) ⟨by simp only; omega, by simp only; omega⟩ dX9_init_27 ?_
  refine an_put ingX9 tyX9_ok nmX9 (ci := 7) (k := 3) rfl (by decide) rfl rfl rfl rfl (q0 := 0) (by omega) rfl (Nat.le_of_ble_eq_true rfl) fl_X9_24 dX9_init_30 ?_
  refine an_aload_n dX9_init_33 rfl ?_
  refine an_iload_n dX9_init_34 rfl ?_
  refine an_put ingX9 tyX9_ok nmX9 (ci := 7) (k := 0) rfl (by decide) rfl rfl (vp_nar_int _) rfl (q0 := 0) (by omega) rfl (Nat.le_of_ble_eq_true rfl) fl_X9_28 dX9_init_35 ?_
  refine an_iconst (v := 0) dX9_init_38 (by decide) ?_
  refine an_istore_n (L' := [some (.ref a), some (.int x), some (.int (nI 0))]) dX9_init_39 (by decide) rfl ?_
  refine an_n (n' := 4) rfl ?_
  refine an_F (G := tskZ cy x 0 0 a) (fun p hp => by rcases (show p = 0 ∨ p = 1 ∨ p = 2 ∨ p = 3 by omega) with rfl | rfl | rfl | rfl <;> simp [tskZ, va_up, capZ]) ?_
  refine an_cs (c' := 3 + 0) (s' := 38 + 6 * 0) rfl rfl ?_
  have lp2 : ∀ k j, j + k = 16 → AN Γ l { frames := 3, cells := 115, slots := 726, locals := 60 } D cy cX9_init RX9 3 none (QN D a 115 726 (tskZ cy x 16 16 a)) a true 67 [some (.ref a), some (.int x), some (.int (nI j))] [] (20 + 6 * j) (tskZ cy x 16 j a) (19 + 6 * j) (134 + 37 * j) := by
    intro k
    induction k with
    | zero =>
      intro j hj
      have hj' : j = 16 := by omega
      subst hj'
      refine an_iload_n dX9_init_67 rfl ?_
      refine an_bipush (v := 16) dX9_init_68 (by decide) ?_
      refine an_icmp_ge (tgt := 92) dX9_init_70 (by decide) (fun h => ?_) (fun h => absurd (by decide) h)
      exact an_ret dX9_init_92 rfl ⟨by omega, by omega⟩
    | succ k ih =>
      intro j hj
      refine an_iload_n dX9_init_67 rfl ?_
      refine an_bipush (v := 16) dX9_init_68 (by decide) ?_
      refine an_icmp_ge (tgt := 92) dX9_init_70 (by decide) (fun h => absurd h (nI_ge (b := 16) (by omega) (by decide))) (fun h => ?_)
      refine an_aload_n dX9_init_73 rfl ?_
      refine an_get ingX9 (ci := 7) (k := 3) rfl (by decide) (q0 := 0) (by omega) rfl rfl fl_X9_24 dX9_init_74 ?_
      refine an_iload_n dX9_init_77 rfl ?_
      refine an_new tyX3 ingX3 tyX3_ok (ci := 2) (fs := [.null, .null, .null, .null, .null, .int 0, .int 0]) rfl bl_X3 nl_X9_22 ⟨by simp only; omega, by simp only; omega⟩ dX9_init_78 ?_
      refine an_dup dX9_init_81 rfl ?_
      refine an_init (n_X3 _) (by simp [va_up]) ci_X9_32 rfl rfl (Nat.le_of_ble_eq_true rfl) ⟨Nat.le_of_ble_eq_true rfl, Nat.le_of_ble_eq_true rfl⟩ ⟨by simp only; omega, by simp only; omega⟩ dX9_init_82 ?_
      refine an_aast (ti := 5) (q0 := 3) (qk := 20 + 6 * j) (ci := 2) (i := j) (N := 16) (r := (RX3, TX3, 7)) (f := fun k => if k < j then some (a + (20 + 6 * k)) else none) rfl rfl (by omega) (by omega) (by simp [show 3 < 20 + 6 * j by omega, va_up, show ¬ 3 = 20 + 6 * j by omega, tskZ]) (by simp [frmZ]; rfl) rfl (by omega) (by decide) dX9_init_85 ?_
      refine an_iinc (v := nI (j + 1)) (L' := [some (.ref a), some (.int x), some (.int (nI (j + 1)))]) dX9_init_86 rfl (nI_1 j) (by decide) rfl ?_
      refine an_goto (tgt := 67) dX9_init_89 (by decide) ?_
      refine an_n (n' := 20 + 6 * (j + 1)) (by omega) ?_
      refine an_cs (c' := 19 + 6 * (j + 1)) (s' := 134 + 37 * (j + 1)) (by omega) (by omega) ?_
      refine an_F (G := tskZ cy x 16 (j + 1) a) (fun p hp => ?_) (ih (j + 1) (by omega))
      rw [arr_up (fun k => a + (20 + 6 * k)) j]
      by_cases h3 : p = 3
      · subst h3
        simp [va_up, tskZ]
      · by_cases hlt : p < 20 + 6 * j
        · simp only [va_up, if_neg h3, if_pos hlt, if_neg (show ¬ p = 20 + 6 * j by omega)]
          simp only [tskZ, if_neg h3]
        · simp only [va_up, if_neg h3, if_neg hlt]
          simp only [tskZ, if_neg (show ¬ p = 0 by omega), if_neg (show ¬ p = 1 by omega), if_neg (show ¬ p = 2 by omega), if_neg h3, if_neg (show ¬ p < 20 by omega)]
          rw [show (p - 20) / 6 = j by omega, show (p - 20) % 6 = p - (20 + 6 * j) by omega]
  have lp1 : ∀ k i, i + k = 16 → AN Γ l { frames := 3, cells := 115, slots := 726, locals := 60 } D cy cX9_init RX9 3 none (QN D a 115 726 (tskZ cy x 16 16 a)) a true 40 [some (.ref a), some (.int x), some (.int (nI i))] [] (4 + i) (tskZ cy x i 0 a) (3 + i) (38 + 6 * i) := by
    intro k
    induction k with
    | zero =>
      intro i hi
      have hi' : i = 16 := by omega
      subst hi'
      refine an_iload_n dX9_init_40 rfl ?_
      refine an_bipush (v := 16) dX9_init_41 (by decide) ?_
      refine an_icmp_ge (tgt := 65) dX9_init_43 (by decide) (fun h => ?_) (fun h => absurd (by decide) h)
      refine an_iconst (v := 0) dX9_init_65 (by decide) ?_
      refine an_istore_n (L' := [some (.ref a), some (.int x), some (.int (nI 0))]) dX9_init_66 (by decide) rfl ?_
      exact lp2 16 0 rfl
    | succ k ih =>
      intro i hi
      refine an_iload_n dX9_init_40 rfl ?_
      refine an_bipush (v := 16) dX9_init_41 (by decide) ?_
      refine an_icmp_ge (tgt := 65) dX9_init_43 (by decide) (fun h => absurd h (nI_ge (b := 16) (by omega) (by decide))) (fun h => ?_)
      refine an_aload_n dX9_init_46 rfl ?_
      refine an_get ingX9 (ci := 7) (k := 1) rfl (by decide) (q0 := 0) (by omega) rfl rfl fl_X9_13 dX9_init_47 ?_
      refine an_iload_n dX9_init_50 rfl ?_
      refine an_new tyX0 ingX0 tyX0_ok (ci := 0) (fs := [.int 0, .int 0, .int 0, .int 0, .int 0, .int 0]) rfl bl_X0 nl_X9_11 ⟨by simp only; omega, by simp only; omega⟩ dX9_init_51 ?_
      refine an_dup dX9_init_54 rfl ?_
      refine an_init (n_X0 _) (by simp [va_up]) ci_X9_17 rfl rfl (Nat.le_of_ble_eq_true rfl) ⟨Nat.le_of_ble_eq_true rfl, Nat.le_of_ble_eq_true rfl⟩ ⟨by simp only; omega, by simp only; omega⟩ dX9_init_55 ?_
      refine an_aast (ti := 3) (q0 := 1) (qk := 4 + i) (ci := 0) (i := i) (N := 16) (r := (RX0, TX0, 6)) (f := fun k => if k < i then some (a + (4 + k)) else none) rfl rfl (by omega) (by omega) (by simp [show 1 < 4 + i by omega, va_up, show ¬ 1 = 4 + i by omega, tskZ]) (by simp [capZ]; rfl) rfl (by omega) (by decide) dX9_init_58 ?_
      refine an_iinc (v := nI (i + 1)) (L' := [some (.ref a), some (.int x), some (.int (nI (i + 1)))]) dX9_init_59 rfl (nI_1 i) (by decide) rfl ?_
      refine an_goto (tgt := 40) dX9_init_62 (by decide) ?_
      refine an_n (n' := 4 + (i + 1)) (by omega) ?_
      refine an_cs (c' := 3 + (i + 1)) (s' := 38 + 6 * (i + 1)) (by omega) (by omega) ?_
      refine an_F (G := tskZ cy x (i + 1) 0 a) (fun p hp => ?_) (ih (i + 1) (by omega))
      rw [arr_up (fun k => a + (4 + k)) i]
      by_cases h1 : p = 1
      · subst h1
        simp [va_up, tskZ]
      · by_cases hlt : p < 4 + i
        · simp only [va_up, if_neg h1, if_pos hlt, if_neg (show ¬ p = 4 + i by omega)]
          simp only [tskZ, if_neg h1]
        · simp only [va_up, if_neg h1, if_neg hlt]
          simp only [tskZ, if_neg (show ¬ p = 0 by omega), if_neg h1, if_neg (show ¬ p = 2 by omega), if_neg (show ¬ p = 3 by omega), if_pos (show p < 20 by omega)]
  exact lp1 16 0 rfl
