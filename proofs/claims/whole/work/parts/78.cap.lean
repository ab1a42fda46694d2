/-! capabilities as values: cursor, base, top, perms, type, tag -/
abbrev Cp := Int32 × Int32 × Int32 × Int32 × Int32 × Bool
def cC (V : HV) (i : Nat) : Cp := (V 0 i 0, V 1 i 0, V 2 i 0, V 3 i 0, V 4 i 0, i2b (V 5 i 0))
def cM (W : HV) (i : Nat) : Cp := (W 2400 0 i, W 2500 0 i, W 2600 0 i, W 2700 0 i, W 2800 0 i, i2b (W 2900 0 i))
def kM (W : HV) (i : Nat) (y : Cp) : HV := sv (sv (sv (sv (sv (sv W 2400 0 i y.1) 2500 0 i y.2.1) 2600 0 i y.2.2.1) 2700 0 i y.2.2.2.1) 2800 0 i y.2.2.2.2.1) 2900 0 i (b2i y.2.2.2.2.2)
def kC (V : HV) (i : Nat) (y : Cp) : HV := sv (sv (sv (sv (sv (sv V 0 i 0 y.1) 1 i 0 y.2.1) 2 i 0 y.2.2.1) 3 i 0 y.2.2.2.1) 4 i 0 y.2.2.2.2.1) 5 i 0 (b2i y.2.2.2.2.2)
/-- a plain number -/
def nm (x : Int32) : Cp := (x, 0, 0, 0, 0, false)
/-- one capability's change in a row of them -/
def up (f : Nat → Cp) (i : Nat) (y : Cp) : Nat → Cp := fun j => if j = i then y else f j
theorem up_at (f : Nat → Cp) (i : Nat) (y : Cp) : up f i y i = y := if_pos rfl
theorem up_ne {f : Nat → Cp} {i j : Nat} {y : Cp} (h : ¬ j = i) : up f i y j = f j := if_neg h
theorem up_up (f : Nat → Cp) (i : Nat) (y z : Cp) : up (up f i y) i z = up f i z := by
  funext j
  by_cases h : j = i <;> simp [up, h]
/-- V' is V, but its capabilities are f -/
def UC (V : HV) (f : Nat → Cp) (V' : HV) : Prop := cC V' = f ∧ agr [0, 1, 2, 3, 4, 5] V V'
def UM (W : HV) (f : Nat → Cp) (W' : HV) : Prop := cM W' = f ∧ agr [2400, 2500, 2600, 2700, 2800, 2900] W W'
theorem UC_rfl (V : HV) : UC V (cC V) V := ⟨rfl, (agr_rfl V).sub (by decide)⟩
theorem UM_rfl (W : HV) : UM W (cM W) W := ⟨rfl, (agr_rfl W).sub (by decide)⟩
theorem agr.trans {cs : List Nat} {V V' V'' : HV} (h1 : agr cs V V') (h2 : agr cs V' V'') : agr cs V V'' := fun c o j h => (h2 c o j h).trans (h1 c o j h)
theorem UC.trans {V V' V'' : HV} {f g : Nat → Cp} (h1 : UC V f V') (h2 : UC V' g V'') : UC V g V'' := ⟨h2.1, h1.2.trans h2.2⟩
theorem UM.trans {V V' V'' : HV} {f g : Nat → Cp} (h1 : UM V f V') (h2 : UM V' g V'') : UM V g V'' := ⟨h2.1, h1.2.trans h2.2⟩
theorem kC_U (V : HV) (i : Nat) (y : Cp) : UC V (up (cC V) i y) (kC V i y) := by
  refine ⟨?_, ?_⟩
  · funext j
    obtain ⟨a, b, c, d, e, t⟩ := y
    by_cases h : j = i
    · subst h; simp [cC, kC, up, sv, i2b_b2i]
    · simp [cC, kC, up, sv, h]
  · exact ((((((agr_sv _ _ _ _ _).app (agr_sv _ _ _ _ _)).app (agr_sv _ _ _ _ _)).app (agr_sv _ _ _ _ _)).app (agr_sv _ _ _ _ _)).app (agr_sv _ _ _ _ _)).sub (by decide)
theorem kM_U (W : HV) (i : Nat) (y : Cp) : UM W (up (cM W) i y) (kM W i y) := by
  refine ⟨?_, ?_⟩
  · funext j
    obtain ⟨a, b, c, d, e, t⟩ := y
    by_cases h : j = i
    · subst h; simp [cM, kM, up, sv, i2b_b2i]
    · simp [cM, kM, up, sv, h]
  · exact ((((((agr_sv _ _ _ _ _).app (agr_sv _ _ _ _ _)).app (agr_sv _ _ _ _ _)).app (agr_sv _ _ _ _ _)).app (agr_sv _ _ _ _ _)).app (agr_sv _ _ _ _ _)).sub (by decide)
/-! the class's operations -/
theorem set_C (kb i : Nat) (a b c d e : Int32) (t : Bool) (V : HV) : f_X0_set kb i a b c d e t V = kC V i (a, b, c, d, e, t) := rfl
theorem copy_C (kb i j : Nat) (V : HV) : f_X0_copy kb i j V = kC V i (cC V j) := rfl
theorem number_C (kb i : Nat) (x : Int32) (V : HV) : f_X0_number kb i x V = kC V i (nm x) := rfl
theorem clear_C (kb i : Nat) (V : HV) : f_X0_clear kb i V = kC V i (nm 0) := rfl
theorem s0_U (V : HV) (i : Nat) (x : Int32) : UC V (up (cC V) i (x, (cC V i).2)) (sv V 0 i 0 x) := by
  refine ⟨?_, (agr_sv _ _ _ _ _).sub (by decide)⟩
  funext j
  by_cases h : j = i
  · subst h; simp [cC, up, sv]
  · simp [cC, up, sv, h]
theorem s1_U (V : HV) (i : Nat) (x : Int32) : UC V (up (cC V) i ((cC V i).1, x, (cC V i).2.2)) (sv V 1 i 0 x) := by
  refine ⟨?_, (agr_sv _ _ _ _ _).sub (by decide)⟩
  funext j
  by_cases h : j = i
  · subst h; simp [cC, up, sv]
  · simp [cC, up, sv, h]
theorem s2_U (V : HV) (i : Nat) (x : Int32) : UC V (up (cC V) i ((cC V i).1, (cC V i).2.1, x, (cC V i).2.2.2)) (sv V 2 i 0 x) := by
  refine ⟨?_, (agr_sv _ _ _ _ _).sub (by decide)⟩
  funext j
  by_cases h : j = i
  · subst h; simp [cC, up, sv]
  · simp [cC, up, sv, h]
theorem s3_U (V : HV) (i : Nat) (x : Int32) : UC V (up (cC V) i ((cC V i).1, (cC V i).2.1, (cC V i).2.2.1, x, (cC V i).2.2.2.2)) (sv V 3 i 0 x) := by
  refine ⟨?_, (agr_sv _ _ _ _ _).sub (by decide)⟩
  funext j
  by_cases h : j = i
  · subst h; simp [cC, up, sv]
  · simp [cC, up, sv, h]
theorem s4_U (V : HV) (i : Nat) (x : Int32) : UC V (up (cC V) i ((cC V i).1, (cC V i).2.1, (cC V i).2.2.1, (cC V i).2.2.2.1, x, (cC V i).2.2.2.2.2)) (sv V 4 i 0 x) := by
  refine ⟨?_, (agr_sv _ _ _ _ _).sub (by decide)⟩
  funext j
  by_cases h : j = i
  · subst h; simp [cC, up, sv]
  · simp [cC, up, sv, h]
theorem s5_U (V : HV) (i : Nat) (b : Bool) : UC V (up (cC V) i ((cC V i).1, (cC V i).2.1, (cC V i).2.2.1, (cC V i).2.2.2.1, (cC V i).2.2.2.2.1, b)) (sv V 5 i 0 (b2i b)) := by
  refine ⟨?_, (agr_sv _ _ _ _ _).sub (by decide)⟩
  funext j
  by_cases h : j = i
  · subst h; simp [cC, up, sv, i2b_b2i]
  · simp [cC, up, sv, h]
/-! the reference's -/
theorem make_M {i : Nat} (h : i < 600) (a b c d e : Int32) (t : Bool) (W : HV) : f_X12_make 0 (nI i) a b c d e t W = some (kM W i (a, b, c, d, e, t)) := by
  unfold f_X12_make
  simp only [lt_def, chk_t (inb_nI h (by decide)), cl_nI (show i < 2147483648 by omega)]
  rfl
theorem copy_M {i j : Nat} (hi : i < 600) (hj : j < 600) (W : HV) : f_X12_copy 0 (nI i) (nI j) W = some (kM W j (cM W i)) := by
  unfold f_X12_copy
  simp only [chk_t (inb_nI hi (by decide)), cl_nI (show i < 2147483648 by omega), make_M hj, bnd_some]
  rfl
theorem number_M {i : Nat} (h : i < 600) (x : Int32) (W : HV) : f_X12_number 0 (nI i) x W = some (kM W i (nm x)) := by
  unfold f_X12_number
  rw [make_M h, bnd_some]
  rfl
theorem nothing_M {i : Nat} (h : i < 600) (W : HV) : f_X12_nothing 0 (nI i) W = some (kM W i (nm 0)) := by
  unfold f_X12_nothing
  rw [make_M h, bnd_some]
  rfl
theorem m0_U (W : HV) (i : Nat) (x : Int32) : UM W (up (cM W) i (x, (cM W i).2)) (sv W 2400 0 i x) := by
  refine ⟨?_, (agr_sv _ _ _ _ _).sub (by decide)⟩
  funext j
  by_cases h : j = i
  · subst h; simp [cM, up, sv]
  · simp [cM, up, sv, h]
theorem m1_U (W : HV) (i : Nat) (x : Int32) : UM W (up (cM W) i ((cM W i).1, x, (cM W i).2.2)) (sv W 2500 0 i x) := by
  refine ⟨?_, (agr_sv _ _ _ _ _).sub (by decide)⟩
  funext j
  by_cases h : j = i
  · subst h; simp [cM, up, sv]
  · simp [cM, up, sv, h]
theorem m2_U (W : HV) (i : Nat) (x : Int32) : UM W (up (cM W) i ((cM W i).1, (cM W i).2.1, x, (cM W i).2.2.2)) (sv W 2600 0 i x) := by
  refine ⟨?_, (agr_sv _ _ _ _ _).sub (by decide)⟩
  funext j
  by_cases h : j = i
  · subst h; simp [cM, up, sv]
  · simp [cM, up, sv, h]
theorem m3_U (W : HV) (i : Nat) (x : Int32) : UM W (up (cM W) i ((cM W i).1, (cM W i).2.1, (cM W i).2.2.1, x, (cM W i).2.2.2.2)) (sv W 2700 0 i x) := by
  refine ⟨?_, (agr_sv _ _ _ _ _).sub (by decide)⟩
  funext j
  by_cases h : j = i
  · subst h; simp [cM, up, sv]
  · simp [cM, up, sv, h]
theorem m4_U (W : HV) (i : Nat) (x : Int32) : UM W (up (cM W) i ((cM W i).1, (cM W i).2.1, (cM W i).2.2.1, (cM W i).2.2.2.1, x, (cM W i).2.2.2.2.2)) (sv W 2800 0 i x) := by
  refine ⟨?_, (agr_sv _ _ _ _ _).sub (by decide)⟩
  funext j
  by_cases h : j = i
  · subst h; simp [cM, up, sv]
  · simp [cM, up, sv, h]
theorem m5_U (W : HV) (i : Nat) (b : Bool) : UM W (up (cM W) i ((cM W i).1, (cM W i).2.1, (cM W i).2.2.1, (cM W i).2.2.2.1, (cM W i).2.2.2.2.1, b)) (sv W 2900 0 i (b2i b)) := by
  refine ⟨?_, (agr_sv _ _ _ _ _).sub (by decide)⟩
  funext j
  by_cases h : j = i
  · subst h; simp [cM, up, sv, i2b_b2i]
  · simp [cM, up, sv, h]
theorem Rk1_iff {V W : HV} {i : Nat} : Rk1 V W i ↔ cC V i = cM W i := by
  unfold Rk1 cC cM
  simp only [Prod.mk.injEq]
