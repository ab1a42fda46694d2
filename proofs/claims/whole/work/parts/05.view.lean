def vwG (n bs : Nat) (f : Nat → va_E) : va_W := (List.range n).map (fun p => (bs + p, f p))
theorem vwG_at {n bs q : Nat} {f : Nat → va_E} (h : q < n) : (vwG n bs f)[q]? = some (bs + q, f q) := by
  unfold vwG
  rw [List.getElem?_map, List.getElem?_range h]
  rfl
theorem vwG_get {n bs i : Nat} {f : Nat → va_E} {x : Nat × va_E} (h : (vwG n bs f)[i]? = some x) : i < n ∧ x = (bs + i, f i) := by
  unfold vwG at h
  rw [List.getElem?_map] at h
  by_cases hi : i < n
  · rw [List.getElem?_range hi] at h
    exact ⟨hi, (Option.some.inj h).symm⟩
  · rw [List.getElem?_eq_none (by rw [List.length_range]; omega)] at h
    cases h
def aG (n bs : Nat) : Nat → Prop := fun q => bs ≤ q ∧ q < bs + n
theorem vwG_D {n bs : Nat} {f : Nat → va_E} : va_D (aG n bs) (vwG n bs f) := by
  refine ⟨fun i j p q hi hj h => ?_, fun k q hk => ?_⟩
  · have h1 := (vwG_get hi).2
    have h2 := (vwG_get hj).2
    subst h1; subst h2
    dsimp only at h
    omega
  · have h1 := vwG_get hk
    rw [h1.2]
    exact ⟨Nat.le_add_right _ _, Nat.add_lt_add_left h1.1 _⟩
theorem vwG_set {n bs q : Nat} {f g : Nat → va_E} {e : va_E} (h : q < n) (hf : ∀ p, p < n → g p = if p = q then e else f p) : (vwG n bs f).set q (bs + q, e) = vwG n bs g := by
  apply List.ext_getElem?
  intro i
  rw [List.getElem?_set]
  by_cases hi : i < n
  · rw [vwG_at (f := g) hi, hf i hi]
    by_cases hq : q = i
    · subst hq
      simp [vwG, hi]
    · rw [if_neg hq, vwG_at hi, if_neg (Ne.symm hq)]
  · have h1 : (vwG n bs g)[i]? = none := List.getElem?_eq_none (by simp [vwG]; omega)
    have h2 : (vwG n bs f)[i]? = none := List.getElem?_eq_none (by simp [vwG]; omega)
    rw [h1, h2, if_neg (by omega)]
abbrev tyL (cy : Nat → ClassId) : List (ClassId × FieldType) := [(cy 0, .byte), (cy 1, .int), (cy 2, .boolean), (cy 3, .object "SweptGrants$Cap"), (cy 4, .object "SweptGrants$Compartment"), (cy 5, .object "SweptGrants$Frame"), (cy 6, .object "SweptGrants$Task")]
def posC (kd o : Nat) : Nat := match kd with
  | 0 => (if o < 102 then (if o % 17 = 16 then 41 + 116 * (o / 17) else 43 + 116 * (o / 17) + o % 17) else if o < 582 then 60 + 116 * ((o - 102) / 80) + 6 * ((o - 102) % 80 / 5) + (o - 102) % 5 else 8)
  | 1 => (15 + 3 * o)
  | 2 => (59 + 116 * (o / 16) + 6 * (o % 16))
  | 3 => 12
  | 4 => 735
  | 5 => (2 + 2 * o)
  | 6 => 9
  | 7 => (39 + 116 * o)
  | 8 => 1
  | 9 => 0
  | 20 => (3 + 2 * o)
  | 21 => 6
  | 22 => 7
  | 23 => 10
  | 24 => 11
  | 25 => 13
  | 26 => 14
  | 27 => (16 + 3 * o)
  | 28 => (17 + 3 * o)
  | 29 => (40 + 116 * o)
  | 30 => (42 + 116 * o)
  | 31 => 736
  | _ => 0
def kdC (p : Nat) : Nat × Nat :=
  if p < 15 then (match p with
    | 0 => (9, 0)
    | 1 => (8, 0)
    | 2 => (5, 0)
    | 3 => (20, 0)
    | 4 => (5, 1)
    | 5 => (20, 1)
    | 6 => (21, 0)
    | 7 => (22, 0)
    | 8 => (0, 582)
    | 9 => (6, 0)
    | 10 => (23, 0)
    | 11 => (24, 0)
    | 12 => (3, 0)
    | 13 => (25, 0)
    | _ => (26, 0))
  else if p < 39 then (if (p - 15) % 3 = 0 then (1, (p - 15) / 3) else if (p - 15) % 3 = 1 then (27, (p - 15) / 3) else (28, (p - 15) / 3))
  else if p < 735 then
    (if (p - 39) % 116 = 0 then (7, (p - 39) / 116) else if (p - 39) % 116 = 1 then (29, (p - 39) / 116) else if (p - 39) % 116 = 2 then (0, 17 * ((p - 39) / 116) + 16) else if (p - 39) % 116 = 3 then (30, (p - 39) / 116)
     else if (p - 39) % 116 < 20 then (0, 17 * ((p - 39) / 116) + ((p - 39) % 116 - 4))
     else if ((p - 39) % 116 - 20) % 6 = 0 then (2, 16 * ((p - 39) / 116) + ((p - 39) % 116 - 20) / 6)
     else (0, 102 + 80 * ((p - 39) / 116) + 5 * (((p - 39) % 116 - 20) / 6) + (((p - 39) % 116 - 20) % 6 - 1)))
  else if p = 735 then (4, 0) else (31, 0)
theorem kdC_inv : ∀ p, p < 737 → posC (kdC p).1 (kdC p).2 = p := by decide +kernel
theorem kpC_0 : ∀ o, o < 583 → kdC (posC 0 o) = (0, o) ∧ posC 0 o < 737 := by decide +kernel
theorem kpC_1 : ∀ o, o < 8 → kdC (posC 1 o) = (1, o) ∧ posC 1 o < 737 := by decide +kernel
theorem kpC_2 : ∀ o, o < 96 → kdC (posC 2 o) = (2, o) ∧ posC 2 o < 737 := by decide +kernel
theorem kpC_3 : ∀ o, o < 1 → kdC (posC 3 o) = (3, o) ∧ posC 3 o < 737 := by decide +kernel
theorem kpC_4 : ∀ o, o < 1 → kdC (posC 4 o) = (4, o) ∧ posC 4 o < 737 := by decide +kernel
theorem kpC_5 : ∀ o, o < 2 → kdC (posC 5 o) = (5, o) ∧ posC 5 o < 737 := by decide +kernel
theorem kpC_6 : ∀ o, o < 1 → kdC (posC 6 o) = (6, o) ∧ posC 6 o < 737 := by decide +kernel
theorem kpC_7 : ∀ o, o < 6 → kdC (posC 7 o) = (7, o) ∧ posC 7 o < 737 := by decide +kernel
theorem kpC_8 : ∀ o, o < 1 → kdC (posC 8 o) = (8, o) ∧ posC 8 o < 737 := by decide +kernel
theorem kpC_9 : ∀ o, o < 1 → kdC (posC 9 o) = (9, o) ∧ posC 9 o < 737 := by decide +kernel
theorem kpC_20 : ∀ o, o < 2 → kdC (posC 20 o) = (20, o) ∧ posC 20 o < 737 := by decide +kernel
theorem kpC_21 : ∀ o, o < 1 → kdC (posC 21 o) = (21, o) ∧ posC 21 o < 737 := by decide +kernel
theorem kpC_22 : ∀ o, o < 1 → kdC (posC 22 o) = (22, o) ∧ posC 22 o < 737 := by decide +kernel
theorem kpC_23 : ∀ o, o < 1 → kdC (posC 23 o) = (23, o) ∧ posC 23 o < 737 := by decide +kernel
theorem kpC_24 : ∀ o, o < 1 → kdC (posC 24 o) = (24, o) ∧ posC 24 o < 737 := by decide +kernel
theorem kpC_25 : ∀ o, o < 1 → kdC (posC 25 o) = (25, o) ∧ posC 25 o < 737 := by decide +kernel
theorem kpC_26 : ∀ o, o < 1 → kdC (posC 26 o) = (26, o) ∧ posC 26 o < 737 := by decide +kernel
theorem kpC_27 : ∀ o, o < 8 → kdC (posC 27 o) = (27, o) ∧ posC 27 o < 737 := by decide +kernel
theorem kpC_28 : ∀ o, o < 8 → kdC (posC 28 o) = (28, o) ∧ posC 28 o < 737 := by decide +kernel
theorem kpC_29 : ∀ o, o < 6 → kdC (posC 29 o) = (29, o) ∧ posC 29 o < 737 := by decide +kernel
theorem kpC_30 : ∀ o, o < 6 → kdC (posC 30 o) = (30, o) ∧ posC 30 o < 737 := by decide +kernel
theorem kpC_31 : ∀ o, o < 1 → kdC (posC 31 o) = (31, o) ∧ posC 31 o < 737 := by decide +kernel
def cellC (cy : Nat → ClassId) (bs : Nat) (kb : Nat) (V : HV) (kd o : Nat) : va_E := match kd with
  | 0 => .inr (0, [.int (V 0 o 0), .int (V 1 o 0), .int (V 2 o 0), .int (V 3 o 0), .int (V 4 o 0), .int (b2i (i2b (V 5 o 0)))])
  | 1 => .inr (1, [.ref (bs + posC 27 o), .ref (bs + posC 28 o), .int (V 102 o 0), .int (V 103 o 0), .int (V 104 o 0), .int (V 105 o 0), .int (V 106 o 0), .int (V 107 o 0), .int (V 108 o 0), .int (V 109 o 0), .int (V 110 o 0), .int (V 111 o 0)])
  | 2 => .inr (2, [.ref (bs + posC 0 (102 + 5 * o)), .ref (bs + posC 0 (103 + 5 * o)), .ref (bs + posC 0 (104 + 5 * o)), .ref (bs + posC 0 (105 + 5 * o)), .ref (bs + posC 0 (106 + 5 * o)), .int (b2i (i2b (V 205 o 0))), .int (V 206 o 0)])
  | 3 => .inr (3, [.ref (bs + posC 25 0), .ref (bs + posC 26 0), .int (V 302 o 0), .int (V 303 o 0), .int (V 304 o 0), .int (V 305 o 0), .int (V 306 o 0), .int (V 307 o 0), .int (b2i (i2b (V 308 o 0)))])
  | 4 => .inr (4, [.ref (bs + posC 31 0), .int (V 401 o 0), .int (V 402 o 0), .int (V 403 o 0), .int (V 404 o 0), .int (V 405 o 0), .int (V 406 o 0), .int (V 407 o 0), .int (V 408 o 0), .int (V 409 o 0)])
  | 5 => .inr (5, [.ref (bs + posC 20 o), .int (V 501 o 0), .int (V 502 o 0)])
  | 6 => .inr (6, [.ref (bs + posC 23 0), .ref (bs + posC 24 0)])
  | 7 => .inr (7, [.int (V 700 o 0), .ref (bs + posC 29 o), .ref (bs + posC 0 (17 * o + 16)), .ref (bs + posC 30 o), .int (V 704 o 0), .int (V 705 o 0), .int (V 706 o 0), .int (V 707 o 0), .int (V 708 o 0), .int (V 709 o 0), .int (b2i (i2b (V 710 o 0))), .int (V 711 o 0), .int (V 712 o 0), .int (V 713 o 0), .int (V 714 o 0), .int (V 715 o 0), .int (V 716 o 0), .int (V 717 o 0), .int (V 718 o 0)])
  | 8 => .inr (8, [.ref (bs + posC 6 0), .ref (bs + posC 3 0), .ref (bs + posC 5 0), .ref (bs + posC 5 1), .ref (bs + posC 21 0), .ref (bs + posC 22 0), .ref (bs + posC 0 582), .int (V 807 o 0), .int (V 808 o 0), .int (b2i (i2b (V 809 o 0))), .int (V 810 o 0), .int (V 811 o 0), .int (V 812 o 0), .int (V 813 o 0), .int (V 814 o 0), .int (V 815 o 0), .int (V 816 o 0)])
  | 9 => .inr (9, [.ref (bs + posC 8 0), .ref (bs + posC 4 0)])
  | 20 => .inl (cy 0, (if o = 0 then 64 else 500), .inl (V 2000 o))
  | 21 => .inl (cy 4, 8, .inr (.inr (.inr (.inr (fun j => some (bs + posC 1 j))))))
  | 22 => .inl (cy 6, 6, .inr (.inr (.inr (.inr (fun j => some (bs + posC 7 j))))))
  | 23 => .inl (cy 0, (1024 * kb), .inl (V 2300 o))
  | 24 => .inl (cy 0, (64 * kb), .inl (V 2400 o))
  | 25 => .inl (cy 1, (64 * kb), .inl (V 2500 o))
  | 26 => .inl (cy 1, (64 * kb), .inl (V 2600 o))
  | 27 => .inl (cy 1, 8, .inl (V 2700 o))
  | 28 => .inl (cy 1, 8, .inl (V 2800 o))
  | 29 => .inl (cy 3, 16, .inr (.inr (.inr (.inr (fun j => some (bs + posC 0 (17 * o + j)))))))
  | 30 => .inl (cy 5, 16, .inr (.inr (.inr (.inr (fun j => some (bs + posC 2 (16 * o + j)))))))
  | 31 => .inl (cy 0, 5000, .inl (V 3100 o))
  | _ => .inr (0, [])
def vwC (cy : Nat → ClassId) (bs : Nat) (kb : Nat) (V : HV) : va_W := vwG 737 bs (fun p => cellC cy bs kb V (kdC p).1 (kdC p).2)
theorem vwC_at {cy : Nat → ClassId} {bs kb : Nat} {V : HV} {q kd o : Nat} (h : kdC q = (kd, o) ∧ q < 737) : (vwC cy bs kb V)[q]? = some (bs + q, cellC cy bs kb V kd o) := by
  unfold vwC
  rw [vwG_at h.2, h.1]
theorem vwC_D {cy : Nat → ClassId} {bs kb : Nat} (V : HV) : va_D (aG 737 bs) (vwC cy bs kb V) := vwG_D
theorem cellC_congr {cy : Nat → ClassId} {bs kb : Nat} {V V' : HV} {kd o : Nat} (h : ∀ k j, k < 100 → V' (100 * kd + k) o j = V (100 * kd + k) o j) : cellC cy bs kb V' kd o = cellC cy bs kb V kd o := by
  unfold cellC
  split
  · simp only [(show V' 0 o 0 = V 0 o 0 from h 0 0 (by decide)), (show V' 1 o 0 = V 1 o 0 from h 1 0 (by decide)), (show V' 2 o 0 = V 2 o 0 from h 2 0 (by decide)), (show V' 3 o 0 = V 3 o 0 from h 3 0 (by decide)), (show V' 4 o 0 = V 4 o 0 from h 4 0 (by decide)), (show V' 5 o 0 = V 5 o 0 from h 5 0 (by decide))]
  · simp only [(show V' 102 o 0 = V 102 o 0 from h 2 0 (by decide)), (show V' 103 o 0 = V 103 o 0 from h 3 0 (by decide)), (show V' 104 o 0 = V 104 o 0 from h 4 0 (by decide)), (show V' 105 o 0 = V 105 o 0 from h 5 0 (by decide)), (show V' 106 o 0 = V 106 o 0 from h 6 0 (by decide)), (show V' 107 o 0 = V 107 o 0 from h 7 0 (by decide)), (show V' 108 o 0 = V 108 o 0 from h 8 0 (by decide)), (show V' 109 o 0 = V 109 o 0 from h 9 0 (by decide)), (show V' 110 o 0 = V 110 o 0 from h 10 0 (by decide)), (show V' 111 o 0 = V 111 o 0 from h 11 0 (by decide))]
  · simp only [(show V' 205 o 0 = V 205 o 0 from h 5 0 (by decide)), (show V' 206 o 0 = V 206 o 0 from h 6 0 (by decide))]
  · simp only [(show V' 302 o 0 = V 302 o 0 from h 2 0 (by decide)), (show V' 303 o 0 = V 303 o 0 from h 3 0 (by decide)), (show V' 304 o 0 = V 304 o 0 from h 4 0 (by decide)), (show V' 305 o 0 = V 305 o 0 from h 5 0 (by decide)), (show V' 306 o 0 = V 306 o 0 from h 6 0 (by decide)), (show V' 307 o 0 = V 307 o 0 from h 7 0 (by decide)), (show V' 308 o 0 = V 308 o 0 from h 8 0 (by decide))]
  · simp only [(show V' 401 o 0 = V 401 o 0 from h 1 0 (by decide)), (show V' 402 o 0 = V 402 o 0 from h 2 0 (by decide)), (show V' 403 o 0 = V 403 o 0 from h 3 0 (by decide)), (show V' 404 o 0 = V 404 o 0 from h 4 0 (by decide)), (show V' 405 o 0 = V 405 o 0 from h 5 0 (by decide)), (show V' 406 o 0 = V 406 o 0 from h 6 0 (by decide)), (show V' 407 o 0 = V 407 o 0 from h 7 0 (by decide)), (show V' 408 o 0 = V 408 o 0 from h 8 0 (by decide)), (show V' 409 o 0 = V 409 o 0 from h 9 0 (by decide))]
  · simp only [(show V' 501 o 0 = V 501 o 0 from h 1 0 (by decide)), (show V' 502 o 0 = V 502 o 0 from h 2 0 (by decide))]
  · rfl
  · simp only [(show V' 700 o 0 = V 700 o 0 from h 0 0 (by decide)), (show V' 704 o 0 = V 704 o 0 from h 4 0 (by decide)), (show V' 705 o 0 = V 705 o 0 from h 5 0 (by decide)), (show V' 706 o 0 = V 706 o 0 from h 6 0 (by decide)), (show V' 707 o 0 = V 707 o 0 from h 7 0 (by decide)), (show V' 708 o 0 = V 708 o 0 from h 8 0 (by decide)), (show V' 709 o 0 = V 709 o 0 from h 9 0 (by decide)), (show V' 710 o 0 = V 710 o 0 from h 10 0 (by decide)), (show V' 711 o 0 = V 711 o 0 from h 11 0 (by decide)), (show V' 712 o 0 = V 712 o 0 from h 12 0 (by decide)), (show V' 713 o 0 = V 713 o 0 from h 13 0 (by decide)), (show V' 714 o 0 = V 714 o 0 from h 14 0 (by decide)), (show V' 715 o 0 = V 715 o 0 from h 15 0 (by decide)), (show V' 716 o 0 = V 716 o 0 from h 16 0 (by decide)), (show V' 717 o 0 = V 717 o 0 from h 17 0 (by decide)), (show V' 718 o 0 = V 718 o 0 from h 18 0 (by decide))]
  · simp only [(show V' 807 o 0 = V 807 o 0 from h 7 0 (by decide)), (show V' 808 o 0 = V 808 o 0 from h 8 0 (by decide)), (show V' 809 o 0 = V 809 o 0 from h 9 0 (by decide)), (show V' 810 o 0 = V 810 o 0 from h 10 0 (by decide)), (show V' 811 o 0 = V 811 o 0 from h 11 0 (by decide)), (show V' 812 o 0 = V 812 o 0 from h 12 0 (by decide)), (show V' 813 o 0 = V 813 o 0 from h 13 0 (by decide)), (show V' 814 o 0 = V 814 o 0 from h 14 0 (by decide)), (show V' 815 o 0 = V 815 o 0 from h 15 0 (by decide)), (show V' 816 o 0 = V 816 o 0 from h 16 0 (by decide))]
  · rfl
  · rw [show V' 2000 o = V 2000 o from funext (fun j => h 0 j (by decide))]
  · rfl
  · rfl
  · rw [show V' 2300 o = V 2300 o from funext (fun j => h 0 j (by decide))]
  · rw [show V' 2400 o = V 2400 o from funext (fun j => h 0 j (by decide))]
  · rw [show V' 2500 o = V 2500 o from funext (fun j => h 0 j (by decide))]
  · rw [show V' 2600 o = V 2600 o from funext (fun j => h 0 j (by decide))]
  · rw [show V' 2700 o = V 2700 o from funext (fun j => h 0 j (by decide))]
  · rw [show V' 2800 o = V 2800 o from funext (fun j => h 0 j (by decide))]
  · rfl
  · rfl
  · rw [show V' 3100 o = V 3100 o from funext (fun j => h 0 j (by decide))]
  · rfl
theorem vwC_set {cy : Nat → ClassId} {bs kb : Nat} {V : HV} {q kd o k j : Nat} {x : Int32} {e : va_E} (h : kdC q = (kd, o) ∧ q < 737) (hk : k < 100) (he : cellC cy bs kb (sv V (100 * kd + k) o j x) kd o = e) : (vwC cy bs kb V).set q (bs + q, e) = vwC cy bs kb (sv V (100 * kd + k) o j x) := by
  unfold vwC
  refine vwG_set h.2 (fun p hp => ?_)
  by_cases hpq : p = q
  · rw [if_pos hpq, hpq, h.1]; exact he
  · rw [if_neg hpq]
    refine cellC_congr (fun k' j' hk' => ?_)
    unfold sv
    rw [if_neg]
    rintro ⟨h1, h2, -⟩
    apply hpq
    have h3 := kdC_inv p hp
    have h4 := kdC_inv q h.2
    rw [h.1] at h4
    have h5 : (kdC p).1 = kd := by omega
    rw [h5, h2] at h3
    exact h3.symm.trans h4
def posM (kd o : Nat) : Nat := match kd with
  | 10 => 0
  | 24 => 1
  | 25 => 2
  | 26 => 3
  | 27 => 4
  | 28 => 5
  | 29 => 6
  | 30 => 7
  | 32 => 8
  | 40 => 9
  | 41 => 10
  | 42 => 11
  | 43 => 12
  | 44 => 13
  | 45 => 14
  | 46 => 15
  | 47 => 16
  | 48 => 17
  | 49 => 18
  | 50 => 19
  | 51 => 20
  | 52 => 21
  | 53 => 22
  | 54 => 23
  | 55 => 24
  | 56 => 25
  | 57 => 26
  | 58 => 27
  | 59 => 28
  | 60 => 29
  | 61 => 30
  | 62 => 31
  | 63 => 32
  | 64 => 33
  | 65 => 34
  | 66 => 35
  | 76 => 36
  | 77 => 37
  | 78 => 38
  | 79 => 39
  | 83 => 40
  | 85 => 41
  | 88 => 42
  | 89 => 43
  | 90 => 44
  | 91 => 45
  | 92 => 46
  | 93 => 47
  | 94 => 48
  | 95 => 49
  | 96 => 50
  | 97 => 51
  | 98 => 52
  | 99 => 53
  | 21 => 54
  | 22 => 55
  | 23 => 56
  | _ => 0
def kdM (p : Nat) : Nat × Nat := match p with
  | 0 => (10, 0)
  | 1 => (24, 0)
  | 2 => (25, 0)
  | 3 => (26, 0)
  | 4 => (27, 0)
  | 5 => (28, 0)
  | 6 => (29, 0)
  | 7 => (30, 0)
  | 8 => (32, 0)
  | 9 => (40, 0)
  | 10 => (41, 0)
  | 11 => (42, 0)
  | 12 => (43, 0)
  | 13 => (44, 0)
  | 14 => (45, 0)
  | 15 => (46, 0)
  | 16 => (47, 0)
  | 17 => (48, 0)
  | 18 => (49, 0)
  | 19 => (50, 0)
  | 20 => (51, 0)
  | 21 => (52, 0)
  | 22 => (53, 0)
  | 23 => (54, 0)
  | 24 => (55, 0)
  | 25 => (56, 0)
  | 26 => (57, 0)
  | 27 => (58, 0)
  | 28 => (59, 0)
  | 29 => (60, 0)
  | 30 => (61, 0)
  | 31 => (62, 0)
  | 32 => (63, 0)
  | 33 => (64, 0)
  | 34 => (65, 0)
  | 35 => (66, 0)
  | 36 => (76, 0)
  | 37 => (77, 0)
  | 38 => (78, 0)
  | 39 => (79, 0)
  | 40 => (83, 0)
  | 41 => (85, 0)
  | 42 => (88, 0)
  | 43 => (89, 0)
  | 44 => (90, 0)
  | 45 => (91, 0)
  | 46 => (92, 0)
  | 47 => (93, 0)
  | 48 => (94, 0)
  | 49 => (95, 0)
  | 50 => (96, 0)
  | 51 => (97, 0)
  | 52 => (98, 0)
  | 53 => (99, 0)
  | 54 => (21, 0)
  | 55 => (22, 0)
  | 56 => (23, 0)
  | _ => (0, 0)
theorem kdM_inv : ∀ p, p < 57 → posM (kdM p).1 (kdM p).2 = p := by decide +kernel
theorem kpM_10 : ∀ o, o < 1 → kdM (posM 10 o) = (10, o) ∧ posM 10 o < 57 := by decide +kernel
theorem kpM_24 : ∀ o, o < 1 → kdM (posM 24 o) = (24, o) ∧ posM 24 o < 57 := by decide +kernel
theorem kpM_25 : ∀ o, o < 1 → kdM (posM 25 o) = (25, o) ∧ posM 25 o < 57 := by decide +kernel
theorem kpM_26 : ∀ o, o < 1 → kdM (posM 26 o) = (26, o) ∧ posM 26 o < 57 := by decide +kernel
theorem kpM_27 : ∀ o, o < 1 → kdM (posM 27 o) = (27, o) ∧ posM 27 o < 57 := by decide +kernel
theorem kpM_28 : ∀ o, o < 1 → kdM (posM 28 o) = (28, o) ∧ posM 28 o < 57 := by decide +kernel
theorem kpM_29 : ∀ o, o < 1 → kdM (posM 29 o) = (29, o) ∧ posM 29 o < 57 := by decide +kernel
theorem kpM_30 : ∀ o, o < 1 → kdM (posM 30 o) = (30, o) ∧ posM 30 o < 57 := by decide +kernel
theorem kpM_32 : ∀ o, o < 1 → kdM (posM 32 o) = (32, o) ∧ posM 32 o < 57 := by decide +kernel
theorem kpM_40 : ∀ o, o < 1 → kdM (posM 40 o) = (40, o) ∧ posM 40 o < 57 := by decide +kernel
theorem kpM_41 : ∀ o, o < 1 → kdM (posM 41 o) = (41, o) ∧ posM 41 o < 57 := by decide +kernel
theorem kpM_42 : ∀ o, o < 1 → kdM (posM 42 o) = (42, o) ∧ posM 42 o < 57 := by decide +kernel
theorem kpM_43 : ∀ o, o < 1 → kdM (posM 43 o) = (43, o) ∧ posM 43 o < 57 := by decide +kernel
theorem kpM_44 : ∀ o, o < 1 → kdM (posM 44 o) = (44, o) ∧ posM 44 o < 57 := by decide +kernel
theorem kpM_45 : ∀ o, o < 1 → kdM (posM 45 o) = (45, o) ∧ posM 45 o < 57 := by decide +kernel
theorem kpM_46 : ∀ o, o < 1 → kdM (posM 46 o) = (46, o) ∧ posM 46 o < 57 := by decide +kernel
theorem kpM_47 : ∀ o, o < 1 → kdM (posM 47 o) = (47, o) ∧ posM 47 o < 57 := by decide +kernel
theorem kpM_48 : ∀ o, o < 1 → kdM (posM 48 o) = (48, o) ∧ posM 48 o < 57 := by decide +kernel
theorem kpM_49 : ∀ o, o < 1 → kdM (posM 49 o) = (49, o) ∧ posM 49 o < 57 := by decide +kernel
theorem kpM_50 : ∀ o, o < 1 → kdM (posM 50 o) = (50, o) ∧ posM 50 o < 57 := by decide +kernel
theorem kpM_51 : ∀ o, o < 1 → kdM (posM 51 o) = (51, o) ∧ posM 51 o < 57 := by decide +kernel
theorem kpM_52 : ∀ o, o < 1 → kdM (posM 52 o) = (52, o) ∧ posM 52 o < 57 := by decide +kernel
theorem kpM_53 : ∀ o, o < 1 → kdM (posM 53 o) = (53, o) ∧ posM 53 o < 57 := by decide +kernel
theorem kpM_54 : ∀ o, o < 1 → kdM (posM 54 o) = (54, o) ∧ posM 54 o < 57 := by decide +kernel
theorem kpM_55 : ∀ o, o < 1 → kdM (posM 55 o) = (55, o) ∧ posM 55 o < 57 := by decide +kernel
theorem kpM_56 : ∀ o, o < 1 → kdM (posM 56 o) = (56, o) ∧ posM 56 o < 57 := by decide +kernel
theorem kpM_57 : ∀ o, o < 1 → kdM (posM 57 o) = (57, o) ∧ posM 57 o < 57 := by decide +kernel
theorem kpM_58 : ∀ o, o < 1 → kdM (posM 58 o) = (58, o) ∧ posM 58 o < 57 := by decide +kernel
theorem kpM_59 : ∀ o, o < 1 → kdM (posM 59 o) = (59, o) ∧ posM 59 o < 57 := by decide +kernel
theorem kpM_60 : ∀ o, o < 1 → kdM (posM 60 o) = (60, o) ∧ posM 60 o < 57 := by decide +kernel
theorem kpM_61 : ∀ o, o < 1 → kdM (posM 61 o) = (61, o) ∧ posM 61 o < 57 := by decide +kernel
theorem kpM_62 : ∀ o, o < 1 → kdM (posM 62 o) = (62, o) ∧ posM 62 o < 57 := by decide +kernel
theorem kpM_63 : ∀ o, o < 1 → kdM (posM 63 o) = (63, o) ∧ posM 63 o < 57 := by decide +kernel
theorem kpM_64 : ∀ o, o < 1 → kdM (posM 64 o) = (64, o) ∧ posM 64 o < 57 := by decide +kernel
theorem kpM_65 : ∀ o, o < 1 → kdM (posM 65 o) = (65, o) ∧ posM 65 o < 57 := by decide +kernel
theorem kpM_66 : ∀ o, o < 1 → kdM (posM 66 o) = (66, o) ∧ posM 66 o < 57 := by decide +kernel
theorem kpM_76 : ∀ o, o < 1 → kdM (posM 76 o) = (76, o) ∧ posM 76 o < 57 := by decide +kernel
theorem kpM_77 : ∀ o, o < 1 → kdM (posM 77 o) = (77, o) ∧ posM 77 o < 57 := by decide +kernel
theorem kpM_78 : ∀ o, o < 1 → kdM (posM 78 o) = (78, o) ∧ posM 78 o < 57 := by decide +kernel
theorem kpM_79 : ∀ o, o < 1 → kdM (posM 79 o) = (79, o) ∧ posM 79 o < 57 := by decide +kernel
theorem kpM_83 : ∀ o, o < 1 → kdM (posM 83 o) = (83, o) ∧ posM 83 o < 57 := by decide +kernel
theorem kpM_85 : ∀ o, o < 1 → kdM (posM 85 o) = (85, o) ∧ posM 85 o < 57 := by decide +kernel
theorem kpM_88 : ∀ o, o < 1 → kdM (posM 88 o) = (88, o) ∧ posM 88 o < 57 := by decide +kernel
theorem kpM_89 : ∀ o, o < 1 → kdM (posM 89 o) = (89, o) ∧ posM 89 o < 57 := by decide +kernel
theorem kpM_90 : ∀ o, o < 1 → kdM (posM 90 o) = (90, o) ∧ posM 90 o < 57 := by decide +kernel
theorem kpM_91 : ∀ o, o < 1 → kdM (posM 91 o) = (91, o) ∧ posM 91 o < 57 := by decide +kernel
theorem kpM_92 : ∀ o, o < 1 → kdM (posM 92 o) = (92, o) ∧ posM 92 o < 57 := by decide +kernel
theorem kpM_93 : ∀ o, o < 1 → kdM (posM 93 o) = (93, o) ∧ posM 93 o < 57 := by decide +kernel
theorem kpM_94 : ∀ o, o < 1 → kdM (posM 94 o) = (94, o) ∧ posM 94 o < 57 := by decide +kernel
theorem kpM_95 : ∀ o, o < 1 → kdM (posM 95 o) = (95, o) ∧ posM 95 o < 57 := by decide +kernel
theorem kpM_96 : ∀ o, o < 1 → kdM (posM 96 o) = (96, o) ∧ posM 96 o < 57 := by decide +kernel
theorem kpM_97 : ∀ o, o < 1 → kdM (posM 97 o) = (97, o) ∧ posM 97 o < 57 := by decide +kernel
theorem kpM_98 : ∀ o, o < 1 → kdM (posM 98 o) = (98, o) ∧ posM 98 o < 57 := by decide +kernel
theorem kpM_99 : ∀ o, o < 1 → kdM (posM 99 o) = (99, o) ∧ posM 99 o < 57 := by decide +kernel
theorem kpM_21 : ∀ o, o < 1 → kdM (posM 21 o) = (21, o) ∧ posM 21 o < 57 := by decide +kernel
theorem kpM_22 : ∀ o, o < 1 → kdM (posM 22 o) = (22, o) ∧ posM 22 o < 57 := by decide +kernel
theorem kpM_23 : ∀ o, o < 1 → kdM (posM 23 o) = (23, o) ∧ posM 23 o < 57 := by decide +kernel
def cellM (cy : Nat → ClassId) (bs : Nat) (V : HV) (kd o : Nat) : va_E := match kd with
  | 10 => .inr (10, [.int (V 1000 o 0), .ref (bs + posM 21 0), .ref (bs + posM 22 0), .ref (bs + posM 23 0), .ref (bs + posM 24 0), .ref (bs + posM 25 0), .ref (bs + posM 26 0), .ref (bs + posM 27 0), .ref (bs + posM 28 0), .ref (bs + posM 29 0), .ref (bs + posM 30 0), .int (V 1011 o 0), .ref (bs + posM 32 0), .int (V 1013 o 0), .int (V 1014 o 0), .int (V 1015 o 0), .int (V 1016 o 0), .int (b2i (i2b (V 1017 o 0))), .int (V 1018 o 0), .int (V 1019 o 0), .ref (bs + posM 40 0), .ref (bs + posM 41 0), .ref (bs + posM 42 0), .ref (bs + posM 43 0), .ref (bs + posM 44 0), .ref (bs + posM 45 0), .ref (bs + posM 46 0), .ref (bs + posM 47 0), .ref (bs + posM 48 0), .ref (bs + posM 49 0), .ref (bs + posM 50 0), .ref (bs + posM 51 0), .ref (bs + posM 52 0), .ref (bs + posM 53 0), .ref (bs + posM 54 0), .ref (bs + posM 55 0), .ref (bs + posM 56 0), .ref (bs + posM 57 0), .ref (bs + posM 58 0), .ref (bs + posM 59 0), .ref (bs + posM 60 0), .ref (bs + posM 61 0), .ref (bs + posM 62 0), .ref (bs + posM 63 0), .ref (bs + posM 64 0), .ref (bs + posM 65 0), .ref (bs + posM 66 0), .int (V 1047 o 0), .int (V 1048 o 0), .int (V 1049 o 0), .int (V 1050 o 0), .int (V 1051 o 0), .int (V 1052 o 0), .int (V 1053 o 0), .int (V 1054 o 0), .int (V 1055 o 0), .ref (bs + posM 76 0), .ref (bs + posM 77 0), .ref (bs + posM 78 0), .ref (bs + posM 79 0), .int (b2i (i2b (V 1060 o 0))), .int (V 1061 o 0), .int (V 1062 o 0), .ref (bs + posM 83 0), .int (V 1064 o 0), .ref (bs + posM 85 0), .int (V 1066 o 0), .int (V 1067 o 0), .ref (bs + posM 88 0), .ref (bs + posM 89 0), .ref (bs + posM 90 0), .ref (bs + posM 91 0), .ref (bs + posM 92 0), .ref (bs + posM 93 0), .ref (bs + posM 94 0), .ref (bs + posM 95 0), .ref (bs + posM 96 0), .ref (bs + posM 97 0), .ref (bs + posM 98 0), .ref (bs + posM 99 0), .int (V 1080 o 0), .int (V 1081 o 0)])
  | 24 => .inl (cy 1, 600, .inl (V 2400 o))
  | 25 => .inl (cy 1, 600, .inl (V 2500 o))
  | 26 => .inl (cy 1, 600, .inl (V 2600 o))
  | 27 => .inl (cy 1, 600, .inl (V 2700 o))
  | 28 => .inl (cy 1, 600, .inl (V 2800 o))
  | 29 => .inl (cy 2, 600, .inl (fun j => b2i (i2b (V 2900 o j))))
  | 30 => .inl (cy 0, 5000, .inl (V 3000 o))
  | 32 => .inl (cy 0, 5000, .inl (V 3200 o))
  | 40 => .inl (cy 1, 8, .inl (V 4000 o))
  | 41 => .inl (cy 1, 8, .inl (V 4100 o))
  | 42 => .inl (cy 1, 8, .inl (V 4200 o))
  | 43 => .inl (cy 1, 8, .inl (V 4300 o))
  | 44 => .inl (cy 1, 8, .inl (V 4400 o))
  | 45 => .inl (cy 1, 64, .inl (V 4500 o))
  | 46 => .inl (cy 1, 64, .inl (V 4600 o))
  | 47 => .inl (cy 1, 6, .inl (V 4700 o))
  | 48 => .inl (cy 1, 6, .inl (V 4800 o))
  | 49 => .inl (cy 1, 6, .inl (V 4900 o))
  | 50 => .inl (cy 1, 6, .inl (V 5000 o))
  | 51 => .inl (cy 1, 6, .inl (V 5100 o))
  | 52 => .inl (cy 2, 6, .inl (fun j => b2i (i2b (V 5200 o j))))
  | 53 => .inl (cy 1, 6, .inl (V 5300 o))
  | 54 => .inl (cy 1, 6, .inl (V 5400 o))
  | 55 => .inl (cy 1, 6, .inl (V 5500 o))
  | 56 => .inl (cy 1, 6, .inl (V 5600 o))
  | 57 => .inl (cy 1, 6, .inl (V 5700 o))
  | 58 => .inl (cy 1, 6, .inl (V 5800 o))
  | 59 => .inl (cy 1, 6, .inl (V 5900 o))
  | 60 => .inl (cy 1, 6, .inl (V 6000 o))
  | 61 => .inl (cy 1, 6, .inl (V 6100 o))
  | 62 => .inl (cy 1, 6, .inl (V 6200 o))
  | 63 => .inl (cy 1, 6, .inl (V 6300 o))
  | 64 => .inl (cy 1, 96, .inl (V 6400 o))
  | 65 => .inl (cy 2, 96, .inl (fun j => b2i (i2b (V 6500 o j))))
  | 66 => .inl (cy 1, 96, .inl (V 6600 o))
  | 76 => .inl (cy 1, 2049, .inl (V 7600 o))
  | 77 => .inl (cy 1, 2049, .inl (V 7700 o))
  | 78 => .inl (cy 2, 2049, .inl (fun j => b2i (i2b (V 7800 o j))))
  | 79 => .inl (cy 2, 2049, .inl (fun j => b2i (i2b (V 7900 o j))))
  | 83 => .inl (cy 1, 64, .inl (V 8300 o))
  | 85 => .inl (cy 1, 500, .inl (V 8500 o))
  | 88 => .inl (cy 1, 8, .inl (V 8800 o))
  | 89 => .inl (cy 1, 8, .inl (V 8900 o))
  | 90 => .inl (cy 1, 8, .inl (V 9000 o))
  | 91 => .inl (cy 1, 128, .inl (V 9100 o))
  | 92 => .inl (cy 1, 128, .inl (V 9200 o))
  | 93 => .inl (cy 1, 128, .inl (V 9300 o))
  | 94 => .inl (cy 1, 128, .inl (V 9400 o))
  | 95 => .inl (cy 1, 8, .inl (V 9500 o))
  | 96 => .inl (cy 1, 6, .inl (V 9600 o))
  | 97 => .inl (cy 1, 6, .inl (V 9700 o))
  | 98 => .inl (cy 1, 6, .inl (V 9800 o))
  | 99 => .inl (cy 1, 6, .inl (V 9900 o))
  | 21 => .inl (cy 0, 32768, .inl (V 2100 o))
  | 22 => .inl (cy 2, 2048, .inl (fun j => b2i (i2b (V 2200 o j))))
  | 23 => .inl (cy 2, 2048, .inl (fun j => b2i (i2b (V 2300 o j))))
  | _ => .inr (0, [])
def vwM (cy : Nat → ClassId) (bs : Nat) (V : HV) : va_W := vwG 57 bs (fun p => cellM cy bs V (kdM p).1 (kdM p).2)
theorem vwM_at {cy : Nat → ClassId} {bs : Nat} {V : HV} {q kd o : Nat} (h : kdM q = (kd, o) ∧ q < 57) : (vwM cy bs V)[q]? = some (bs + q, cellM cy bs V kd o) := by
  unfold vwM
  rw [vwG_at h.2, h.1]
theorem vwM_D {cy : Nat → ClassId} {bs : Nat} (V : HV) : va_D (aG 57 bs) (vwM cy bs V) := vwG_D
theorem cellM_congr {cy : Nat → ClassId} {bs : Nat} {V V' : HV} {kd o : Nat} (h : ∀ k j, k < 100 → V' (100 * kd + k) o j = V (100 * kd + k) o j) : cellM cy bs V' kd o = cellM cy bs V kd o := by
  unfold cellM
  split
  · simp only [(show V' 1000 o 0 = V 1000 o 0 from h 0 0 (by decide)), (show V' 1011 o 0 = V 1011 o 0 from h 11 0 (by decide)), (show V' 1013 o 0 = V 1013 o 0 from h 13 0 (by decide)), (show V' 1014 o 0 = V 1014 o 0 from h 14 0 (by decide)), (show V' 1015 o 0 = V 1015 o 0 from h 15 0 (by decide)), (show V' 1016 o 0 = V 1016 o 0 from h 16 0 (by decide)), (show V' 1017 o 0 = V 1017 o 0 from h 17 0 (by decide)), (show V' 1018 o 0 = V 1018 o 0 from h 18 0 (by decide)), (show V' 1019 o 0 = V 1019 o 0 from h 19 0 (by decide)), (show V' 1047 o 0 = V 1047 o 0 from h 47 0 (by decide)), (show V' 1048 o 0 = V 1048 o 0 from h 48 0 (by decide)), (show V' 1049 o 0 = V 1049 o 0 from h 49 0 (by decide)), (show V' 1050 o 0 = V 1050 o 0 from h 50 0 (by decide)), (show V' 1051 o 0 = V 1051 o 0 from h 51 0 (by decide)), (show V' 1052 o 0 = V 1052 o 0 from h 52 0 (by decide)), (show V' 1053 o 0 = V 1053 o 0 from h 53 0 (by decide)), (show V' 1054 o 0 = V 1054 o 0 from h 54 0 (by decide)), (show V' 1055 o 0 = V 1055 o 0 from h 55 0 (by decide)), (show V' 1060 o 0 = V 1060 o 0 from h 60 0 (by decide)), (show V' 1061 o 0 = V 1061 o 0 from h 61 0 (by decide)), (show V' 1062 o 0 = V 1062 o 0 from h 62 0 (by decide)), (show V' 1064 o 0 = V 1064 o 0 from h 64 0 (by decide)), (show V' 1066 o 0 = V 1066 o 0 from h 66 0 (by decide)), (show V' 1067 o 0 = V 1067 o 0 from h 67 0 (by decide)), (show V' 1080 o 0 = V 1080 o 0 from h 80 0 (by decide)), (show V' 1081 o 0 = V 1081 o 0 from h 81 0 (by decide))]
  · rw [show V' 2400 o = V 2400 o from funext (fun j => h 0 j (by decide))]
  · rw [show V' 2500 o = V 2500 o from funext (fun j => h 0 j (by decide))]
  · rw [show V' 2600 o = V 2600 o from funext (fun j => h 0 j (by decide))]
  · rw [show V' 2700 o = V 2700 o from funext (fun j => h 0 j (by decide))]
  · rw [show V' 2800 o = V 2800 o from funext (fun j => h 0 j (by decide))]
  · rw [show V' 2900 o = V 2900 o from funext (fun j => h 0 j (by decide))]
  · rw [show V' 3000 o = V 3000 o from funext (fun j => h 0 j (by decide))]
  · rw [show V' 3200 o = V 3200 o from funext (fun j => h 0 j (by decide))]
  · rw [show V' 4000 o = V 4000 o from funext (fun j => h 0 j (by decide))]
  · rw [show V' 4100 o = V 4100 o from funext (fun j => h 0 j (by decide))]
  · rw [show V' 4200 o = V 4200 o from funext (fun j => h 0 j (by decide))]
  · rw [show V' 4300 o = V 4300 o from funext (fun j => h 0 j (by decide))]
  · rw [show V' 4400 o = V 4400 o from funext (fun j => h 0 j (by decide))]
  · rw [show V' 4500 o = V 4500 o from funext (fun j => h 0 j (by decide))]
  · rw [show V' 4600 o = V 4600 o from funext (fun j => h 0 j (by decide))]
  · rw [show V' 4700 o = V 4700 o from funext (fun j => h 0 j (by decide))]
  · rw [show V' 4800 o = V 4800 o from funext (fun j => h 0 j (by decide))]
  · rw [show V' 4900 o = V 4900 o from funext (fun j => h 0 j (by decide))]
  · rw [show V' 5000 o = V 5000 o from funext (fun j => h 0 j (by decide))]
  · rw [show V' 5100 o = V 5100 o from funext (fun j => h 0 j (by decide))]
  · rw [show V' 5200 o = V 5200 o from funext (fun j => h 0 j (by decide))]
  · rw [show V' 5300 o = V 5300 o from funext (fun j => h 0 j (by decide))]
  · rw [show V' 5400 o = V 5400 o from funext (fun j => h 0 j (by decide))]
  · rw [show V' 5500 o = V 5500 o from funext (fun j => h 0 j (by decide))]
  · rw [show V' 5600 o = V 5600 o from funext (fun j => h 0 j (by decide))]
  · rw [show V' 5700 o = V 5700 o from funext (fun j => h 0 j (by decide))]
  · rw [show V' 5800 o = V 5800 o from funext (fun j => h 0 j (by decide))]
  · rw [show V' 5900 o = V 5900 o from funext (fun j => h 0 j (by decide))]
  · rw [show V' 6000 o = V 6000 o from funext (fun j => h 0 j (by decide))]
  · rw [show V' 6100 o = V 6100 o from funext (fun j => h 0 j (by decide))]
  · rw [show V' 6200 o = V 6200 o from funext (fun j => h 0 j (by decide))]
  · rw [show V' 6300 o = V 6300 o from funext (fun j => h 0 j (by decide))]
  · rw [show V' 6400 o = V 6400 o from funext (fun j => h 0 j (by decide))]
  · rw [show V' 6500 o = V 6500 o from funext (fun j => h 0 j (by decide))]
  · rw [show V' 6600 o = V 6600 o from funext (fun j => h 0 j (by decide))]
  · rw [show V' 7600 o = V 7600 o from funext (fun j => h 0 j (by decide))]
  · rw [show V' 7700 o = V 7700 o from funext (fun j => h 0 j (by decide))]
  · rw [show V' 7800 o = V 7800 o from funext (fun j => h 0 j (by decide))]
  · rw [show V' 7900 o = V 7900 o from funext (fun j => h 0 j (by decide))]
  · rw [show V' 8300 o = V 8300 o from funext (fun j => h 0 j (by decide))]
  · rw [show V' 8500 o = V 8500 o from funext (fun j => h 0 j (by decide))]
  · rw [show V' 8800 o = V 8800 o from funext (fun j => h 0 j (by decide))]
  · rw [show V' 8900 o = V 8900 o from funext (fun j => h 0 j (by decide))]
  · rw [show V' 9000 o = V 9000 o from funext (fun j => h 0 j (by decide))]
  · rw [show V' 9100 o = V 9100 o from funext (fun j => h 0 j (by decide))]
  · rw [show V' 9200 o = V 9200 o from funext (fun j => h 0 j (by decide))]
  · rw [show V' 9300 o = V 9300 o from funext (fun j => h 0 j (by decide))]
  · rw [show V' 9400 o = V 9400 o from funext (fun j => h 0 j (by decide))]
  · rw [show V' 9500 o = V 9500 o from funext (fun j => h 0 j (by decide))]
  · rw [show V' 9600 o = V 9600 o from funext (fun j => h 0 j (by decide))]
  · rw [show V' 9700 o = V 9700 o from funext (fun j => h 0 j (by decide))]
  · rw [show V' 9800 o = V 9800 o from funext (fun j => h 0 j (by decide))]
  · rw [show V' 9900 o = V 9900 o from funext (fun j => h 0 j (by decide))]
  · rw [show V' 2100 o = V 2100 o from funext (fun j => h 0 j (by decide))]
  · rw [show V' 2200 o = V 2200 o from funext (fun j => h 0 j (by decide))]
  · rw [show V' 2300 o = V 2300 o from funext (fun j => h 0 j (by decide))]
  · rfl
theorem vwM_set {cy : Nat → ClassId} {bs : Nat} {V : HV} {q kd o k j : Nat} {x : Int32} {e : va_E} (h : kdM q = (kd, o) ∧ q < 57) (hk : k < 100) (he : cellM cy bs (sv V (100 * kd + k) o j x) kd o = e) : (vwM cy bs V).set q (bs + q, e) = vwM cy bs (sv V (100 * kd + k) o j x) := by
  unfold vwM
  refine vwG_set h.2 (fun p hp => ?_)
  by_cases hpq : p = q
  · rw [if_pos hpq, hpq, h.1]; exact he
  · rw [if_neg hpq]
    refine cellM_congr (fun k' j' hk' => ?_)
    unfold sv
    rw [if_neg]
    rintro ⟨h1, h2, -⟩
    apply hpq
    have h3 := kdM_inv p hp
    have h4 := kdM_inv q h.2
    rw [h.1] at h4
    have h5 : (kdM p).1 = kd := by omega
    rw [h5, h2] at h3
    exact h3.symm.trans h4
