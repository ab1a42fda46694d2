/-! words of E, simplified -/
theorem chk_t {α : Type} {b : Prop} [Decidable b] {E : Option α} (h : b) : chk b E = E := if_pos h
theorem bnd_some {α β : Type} (x : α) (K : α → Option β) : bnd (some x) K = K x := rfl
theorem lt_def {α β : Type} (v : α) (K : α → β) : lt v K = K v := rfl
theorem jn_def {α β : Type} (F : α) (B : α → β) : jn F B = B F := rfl
theorem onn_none {α β : Type} (E1 : β) (E2 : α → β) : onn none E1 E2 = E1 := rfl
theorem onn_some {α β : Type} (a : α) (E1 : β) (E2 : α → β) : onn (some a) E1 E2 = E2 a := rfl
theorem ite_tf (b : Bool) : (if b = true then true else false) = b := by cases b <;> rfl
theorem ite_ft (b : Bool) : (if b = true then false else true) = !b := by cases b <;> rfl
theorem dec_tf (c : Prop) [Decidable c] : (if c then true else false) = decide c := by by_cases h : c <;> simp [h]
theorem dec_ft (c : Prop) [Decidable c] : (if c then false else true) = !decide c := by by_cases h : c <;> simp [h]
/-! places -/
theorem sv_at (V : HV) (a b j : Nat) (x : Int32) : sv V a b j x a b j = x := by simp [sv]
theorem sv_ne {V : HV} {a b j a' b' j' : Nat} {x : Int32} (h : ¬ (a' = a ∧ b' = b ∧ j' = j)) : sv V a b j x a' b' j' = V a' b' j' := by simp [sv, h]
theorem sv_col {V : HV} {a b j a' b' j' : Nat} {x : Int32} (h : ¬ a' = a) : sv V a b j x a' b' j' = V a' b' j' := by simp [sv, h]
theorem inb_nI {k n : Nat} (h : k < n) (hn : n ≤ 2147483648) : inb (nI k) n := by
  have h1 := nI_toInt (n := k) (by omega)
  constructor <;> omega
theorem inb_of {x : Int32} {n : Nat} (h0 : ¬ x < 0) (h1 : x < nI n) (hn : n ≤ 2147483647) : inb x n := by
  rw [Int32.lt_iff_toInt_lt] at h0 h1
  rw [nI_toInt (by omega)] at h1
  simp at h0
  exact ⟨h0, h1⟩
/-- a number that isn't negative, and is less than n, is one of the first n -/
theorem nI_lt_of {x : Int32} {n : Nat} (h0 : ¬ x < 0) (h1 : x < nI n) (hn : n ≤ 2147483647) : ∃ k, k < n ∧ x = nI k := by
  obtain ⟨j, hj, rfl⟩ := nI_of h0
  exact ⟨j, (nI_ltI (by omega) (by omega)).mp h1, rfl⟩
theorem nI_le_of {x : Int32} {n : Nat} (h0 : ¬ x < 0) (h1 : ¬ nI n ≤ x) (hn : n ≤ 2147483647) : ∃ k, k < n ∧ x = nI k := nI_lt_of h0 (Int32.not_le.mp h1) hn
theorem cl_nI {k : Nat} (h : k < 2147483648) : (nI k).toNatClampNeg = k := nI_clamp h
theorem nI_inj {a b : Nat} (ha : a < 2147483648) (hb : b < 2147483648) (h : nI a = nI b) : a = b := (nI_eq ha hb).mp h
theorem nI_lit (k : Nat) : (OfNat.ofNat k : Int32) = nI k := rfl
theorem m1_lt : (-1 : Int32) < 0 := by decide
theorem m1_ne (k : Nat) (h : k < 2147483648) : ¬ nI k = -1 := fun q => absurd (q ▸ m1_lt : nI k < 0) (nI_pos h)
theorem i2b_0 : i2b 0 = false := by decide
theorem i2b_1 : i2b 1 = true := by decide
theorem ofNat_nI (k : Nat) : Int32.ofNat k = nI k := rfl
