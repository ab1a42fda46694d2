/-! the first world of the class, as a view -/
def V0C : HV := fun c o _ => if c = 700 then nI o else if c = 307 ∨ c = 811 ∨ c = 405 then -1 else 0
def veq (e e' : va_E) : Prop := ∀ (D : va_G) (q : Nat) (H : Heap), va_at D vwCl (q, e) H → va_at D vwCl (q, e') H
theorem veq_of {e e' : va_E} (h : e = e') : veq e e' := fun _ _ _ q => h ▸ q
theorem veq_arr {c : ClassId} {n : Nat} {f g : Nat → Option Nat} (h : ∀ j, j < n → f j = g j) : veq (.inl (c, n, .inr (.inr (.inr (.inr f))))) (.inl (c, n, .inr (.inr (.inr (.inr g))))) := by
  intro D q H hq
  have hq' : H[q]? = some (vp_cell c (n, .inr (.inr (.inr (.inr f))))) := hq
  show H[q]? = some (vp_cell c (n, .inr (.inr (.inr (.inr g)))))
  rw [hq']
  congr 1
  rw [vp_cell_q, vp_cell_q]
  unfold arrV
  congr 1
  apply congrArg
  funext j
  show va_rf (f j.val) = va_rf (g j.val)
  rw [h j.val j.isLt]
theorem cap_view {cy : Nat → ClassId} {a kb o : Nat} : cellC cy a kb V0C 0 o = capZ := by
  simp [cellC, V0C, capZ, b2i, i2b]
theorem kdT : ∀ t, t < 6 → ∀ q, q < 116 → kdC (39 + 116 * t + q) = (if q = 0 then (7, t) else if q = 1 then (29, t) else if q = 2 then (0, 17 * t + 16) else if q = 3 then (30, t) else if q < 20 then (0, 17 * t + (q - 4)) else if (q - 20) % 6 = 0 then (2, 16 * t + (q - 20) / 6) else (0, 102 + 80 * t + 5 * ((q - 20) / 6) + ((q - 20) % 6 - 1))) := by decide +kernel
theorem kdK : ∀ i, i < 8 → ∀ q, q < 3 → kdC (15 + 3 * i + q) = (if q = 0 then (1, i) else if q = 1 then (27, i) else (28, i)) := by decide +kernel
theorem pos0a : ∀ t, t < 6 → ∀ j, j < 16 → posC 0 (17 * t + j) = 43 + 116 * t + j := by decide +kernel
theorem pos0p : ∀ t, t < 6 → posC 0 (17 * t + 16) = 41 + 116 * t := by decide +kernel
theorem pos2a : ∀ t, t < 6 → ∀ j, j < 16 → posC 2 (16 * t + j) = 59 + 116 * t + 6 * j := by decide +kernel
theorem pos0f : ∀ t, t < 6 → ∀ j, j < 16 → ∀ k, k < 5 → posC 0 (102 + k + 5 * (16 * t + j)) = 60 + 116 * t + 6 * j + k := by decide +kernel
theorem sgW {cy : Nat → ClassId} {N a p : Nat} (h0 : ¬ p = 0) (h : p < 735) : sgZ cy N a p = wldZ cy N 8 6 (a + 1) (p - 1) := by
  simp [sgZ, h0, h]
set_option maxHeartbeats 4000000 in
theorem view_task {cy : Nat → ClassId} {a kb t q : Nat} (ht : t < 6) (hq : q < 116) : veq (tskZ cy (nI t) 16 16 (a + (39 + 116 * t)) q) (cellC cy a kb V0C (kdC (39 + 116 * t + q)).1 (kdC (39 + 116 * t + q)).2) := by
  rw [kdT t ht q hq]
  unfold tskZ
  by_cases h0 : q = 0
  · simp only [if_pos h0]
    apply veq_of
    rw [show a + (39 + 116 * t) + 1 = a + posC 29 t by show _ = a + (40 + 116 * t); omega, show a + (39 + 116 * t) + 2 = a + posC 0 (17 * t + 16) by rw [pos0p t ht]; omega, show a + (39 + 116 * t) + 3 = a + posC 30 t by show _ = a + (42 + 116 * t); omega]
    rfl
  · by_cases h1 : q = 1
    · simp only [if_neg h0, if_pos h1]
      refine veq_arr (fun j hj => ?_)
      rw [if_pos hj, pos0a t ht j hj]
      congr 1
      omega
    · by_cases h2 : q = 2
      · simp only [if_neg h0, if_neg h1, if_pos h2]
        exact veq_of cap_view.symm
      · by_cases h3 : q = 3
        · simp only [if_neg h0, if_neg h1, if_neg h2, if_pos h3]
          refine veq_arr (fun j hj => ?_)
          rw [if_pos hj, pos2a t ht j hj]
          congr 1
          omega
        · by_cases h20 : q < 20
          · simp only [if_neg h0, if_neg h1, if_neg h2, if_neg h3, if_pos h20]
            exact veq_of cap_view.symm
          · simp only [if_neg h0, if_neg h1, if_neg h2, if_neg h3, if_neg h20]
            by_cases h6 : (q - 20) % 6 = 0
            · simp only [if_pos h6]
              apply veq_of
              have hj : (q - 20) / 6 < 16 := by omega
              simp only [frmZ, if_pos h6]
              have e0 := pos0f t ht _ hj 0 (by decide)
              have e1 := pos0f t ht _ hj 1 (by decide)
              have e2 := pos0f t ht _ hj 2 (by decide)
              have e3 := pos0f t ht _ hj 3 (by decide)
              have e4 := pos0f t ht _ hj 4 (by decide)
              rw [show (102 + 0 + 5 * (16 * t + (q - 20) / 6)) = 102 + 5 * (16 * t + (q - 20) / 6) by omega] at e0
              rw [show (102 + 1 + 5 * (16 * t + (q - 20) / 6)) = 103 + 5 * (16 * t + (q - 20) / 6) by omega] at e1
              rw [show (102 + 2 + 5 * (16 * t + (q - 20) / 6)) = 104 + 5 * (16 * t + (q - 20) / 6) by omega] at e2
              rw [show (102 + 3 + 5 * (16 * t + (q - 20) / 6)) = 105 + 5 * (16 * t + (q - 20) / 6) by omega] at e3
              rw [show (102 + 4 + 5 * (16 * t + (q - 20) / 6)) = 106 + 5 * (16 * t + (q - 20) / 6) by omega] at e4
              rw [show a + (39 + 116 * t) + (20 + 6 * ((q - 20) / 6)) + 1 = a + posC 0 (102 + 5 * (16 * t + (q - 20) / 6)) by rw [e0]; omega, show a + (39 + 116 * t) + (20 + 6 * ((q - 20) / 6)) + 2 = a + posC 0 (103 + 5 * (16 * t + (q - 20) / 6)) by rw [e1]; omega, show a + (39 + 116 * t) + (20 + 6 * ((q - 20) / 6)) + 3 = a + posC 0 (104 + 5 * (16 * t + (q - 20) / 6)) by rw [e2]; omega, show a + (39 + 116 * t) + (20 + 6 * ((q - 20) / 6)) + 4 = a + posC 0 (105 + 5 * (16 * t + (q - 20) / 6)) by rw [e3]; omega, show a + (39 + 116 * t) + (20 + 6 * ((q - 20) / 6)) + 5 = a + posC 0 (106 + 5 * (16 * t + (q - 20) / 6)) by rw [e4]; omega]
              rfl
            · simp only [if_neg h6, frmZ]
              exact veq_of cap_view.symm
set_option maxHeartbeats 4000000 in
theorem view_comp {cy : Nat → ClassId} {a kb i q : Nat} (hi : i < 8) (hq : q < 3) : veq (cmpZ cy (a + (15 + 3 * i)) q) (cellC cy a kb V0C (kdC (15 + 3 * i + q)).1 (kdC (15 + 3 * i + q)).2) := by
  rw [kdK i hi q hq]
  unfold cmpZ
  apply veq_of
  rcases (show q = 0 ∨ q = 1 ∨ q = 2 by omega) with rfl | rfl | rfl
  · rw [if_pos rfl, show a + (15 + 3 * i) + 1 = a + posC 27 i by show _ = a + (16 + 3 * i); omega, show a + (15 + 3 * i) + 2 = a + posC 28 i by show _ = a + (17 + 3 * i); omega]
    rfl
  · rfl
  · rfl
set_option maxHeartbeats 4000000 in
theorem sg_view {cy : Nat → ClassId} {a kb : Nat} : ∀ p, p < 737 → veq (sgZ cy (64 * kb) a p) (cellC cy a kb V0C (kdC p).1 (kdC p).2) := by
  intro p hp
  by_cases h15 : p < 15
  · rcases (show p = 0 ∨ p = 1 ∨ p = 2 ∨ p = 3 ∨ p = 4 ∨ p = 5 ∨ p = 6 ∨ p = 7 ∨ p = 8 ∨ p = 9 ∨ p = 10 ∨ p = 11 ∨ p = 12 ∨ p = 13 ∨ p = 14 by omega) with rfl | rfl | rfl | rfl | rfl | rfl | rfl | rfl | rfl | rfl | rfl | rfl | rfl | rfl | rfl
    · exact veq_of rfl
    · exact veq_of rfl
    · exact veq_of rfl
    · exact veq_of rfl
    · exact veq_of rfl
    · exact veq_of rfl
    · refine veq_arr (fun j hj => ?_)
      rw [if_pos hj]
      show some (a + 1 + (14 + 3 * j)) = some (a + (15 + 3 * j))
      congr 1
      omega
    · refine veq_arr (fun j hj => ?_)
      rw [if_pos hj]
      show some (a + 1 + (38 + 116 * j)) = some (a + (39 + 116 * j))
      congr 1
      omega
    · exact veq_of cap_view.symm
    · exact veq_of rfl
    · refine veq_of ?_
      show (.inl (cy 0, 16 * (64 * kb), .inl (fun _ => 0)) : va_E) = .inl (cy 0, 1024 * kb, .inl (V0C 2300 0))
      rw [show 16 * (64 * kb) = 1024 * kb by omega]
      rfl
    · exact veq_of rfl
    · exact veq_of rfl
    · exact veq_of rfl
    · exact veq_of rfl
  · by_cases h39 : p < 39
    · rw [sgW (by omega) (by omega)]
      have e1 : p = 15 + 3 * ((p - 15) / 3) + (p - 15) % 3 := by omega
      have h := view_comp (cy := cy) (a := a) (kb := kb) (i := (p - 15) / 3) (q := (p - 15) % 3) (by omega) (by omega)
      rw [← e1] at h
      simp only [wldZ, if_neg (show ¬ p - 1 = 0 by omega), if_neg (show ¬ p - 1 < 3 by omega), if_neg (show ¬ p - 1 < 5 by omega), if_neg (show ¬ p - 1 = 5 by omega), if_neg (show ¬ p - 1 = 6 by omega), if_neg (show ¬ p - 1 = 7 by omega), if_neg (show ¬ p - 1 < 11 by omega), if_neg (show ¬ p - 1 < 14 by omega), if_pos (show p - 1 < 38 by omega)]
      rw [show p - 1 - 14 = p - 15 by omega, show a + 1 + (14 + 3 * ((p - 15) / 3)) = a + (15 + 3 * ((p - 15) / 3)) by omega]
      exact h
    · by_cases h735 : p < 735
      · rw [sgW (by omega) (by omega)]
        have e1 : p = 39 + 116 * ((p - 39) / 116) + (p - 39) % 116 := by omega
        have h := view_task (cy := cy) (a := a) (kb := kb) (t := (p - 39) / 116) (q := (p - 39) % 116) (by omega) (by omega)
        rw [← e1] at h
        simp only [wldZ, if_neg (show ¬ p - 1 = 0 by omega), if_neg (show ¬ p - 1 < 3 by omega), if_neg (show ¬ p - 1 < 5 by omega), if_neg (show ¬ p - 1 = 5 by omega), if_neg (show ¬ p - 1 = 6 by omega), if_neg (show ¬ p - 1 = 7 by omega), if_neg (show ¬ p - 1 < 11 by omega), if_neg (show ¬ p - 1 < 14 by omega), if_neg (show ¬ p - 1 < 38 by omega)]
        rw [show p - 1 - 38 = p - 39 by omega, show a + 1 + (38 + 116 * ((p - 39) / 116)) = a + (39 + 116 * ((p - 39) / 116)) by omega]
        exact h
      · rcases (show p = 735 ∨ p = 736 by omega) with rfl | rfl
        · exact veq_of rfl
        · exact veq_of rfl
theorem sg_P {D : va_G} {cy : Nat → ClassId} {a kb : Nat} {H : Heap} (h : va_P D vwCl (vwG 737 a (sgZ cy (64 * kb) a)) H) : va_P D vwCl (vwC cy a kb V0C) H := by
  unfold vwC
  rw [vwG_P] at h ⊢
  intro p hp
  exact sg_view p hp D _ H (h p hp)
