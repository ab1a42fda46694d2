/-- the locals that are known, by their places -/
def LR (ls : Array Slot) (nL : Nat) (L : List (Option Value)) : Prop := ls.size = nL ∧ lv_wf ls ∧ ∀ (i : Nat) (v : Value), L[i]? = some (some v) → ls[i]? = some (.val v)
def k2o (o : Option Value) : Option Value := match o with
  | some v => if v.category = 2 then none else some v
  | none => none
/-- a store of one word: what lies two words wide just ahead of it is lost -/
def set1 : List (Option Value) → Nat → Value → List (Option Value)
  | [], _, _ => []
  | _ :: L, 0, v => some v :: L
  | o :: L, 1, v => k2o o :: set1 L 0 v
  | o :: L, n + 2, v => o :: set1 L (n + 1) v
/-- a store of two words -/
def kil0 : List (Option Value) → List (Option Value)
  | [] => []
  | _ :: L => none :: L
def set2 : List (Option Value) → Nat → Value → List (Option Value)
  | [], _, _ => []
  | _ :: L, 0, v => some v :: kil0 L
  | o :: L, 1, v => k2o o :: set2 L 0 v
  | o :: L, n + 2, v => o :: set2 L (n + 1) v
def asc (L : List (Option Value)) : List (Nat × Value) := (List.range L.length).filterMap (fun i => match L[i]? with
  | some (some v) => some (i, v)
  | _ => none)
theorem asc_mem {L : List (Option Value)} {i : Nat} {v : Value} : (i, v) ∈ asc L ↔ L[i]? = some (some v) := by
  unfold asc
  rw [List.mem_filterMap]
  constructor
  · rintro ⟨j, -, hj⟩
    split at hj
    · rename_i w hw
      cases hj
      exact hw
    · cases hj
  · intro h
    refine ⟨i, List.mem_range.mpr (List.getElem?_eq_some_iff.mp h).1, ?_⟩
    rw [h]
theorem LR.has {ls : Array Slot} {nL : Nat} {L : List (Option Value)} (h : LR ls nL L) : lv_has ls nL (asc L) := ⟨h.1, h.2.1, fun q hq => h.2.2 q.1 q.2 (asc_mem.mp hq)⟩
theorem k2o_some {o : Option Value} {w : Value} (h : k2o o = some w) : o = some w ∧ ¬ w.category = 2 := by
  cases o with
  | none => cases h
  | some v =>
    have h' : (if v.category = 2 then none else some v) = some w := h
    by_cases hv : v.category = 2
    · rw [if_pos hv] at h'; cases h'
    · rw [if_neg hv] at h'; cases h'; exact ⟨rfl, hv⟩
theorem set1_at : ∀ (L : List (Option Value)) (i j : Nat) (v w : Value), (set1 L i v)[j]? = some (some w) → (j = i ∧ w = v) ∨ (j ≠ i ∧ L[j]? = some (some w) ∧ (j + 1 = i → ¬ w.category = 2))
  | [], _, _, _, _, h => by simp [set1] at h
  | o :: L, 0, j, v, w, h => by
    cases j with
    | zero => simp [set1] at h; exact Or.inl ⟨rfl, h.symm⟩
    | succ j => simp [set1] at h; exact Or.inr ⟨by omega, by simpa using h, fun q => by omega⟩
  | o :: L, 1, j, v, w, h => by
    cases j with
    | zero =>
      simp [set1] at h
      have h2 := k2o_some h
      exact Or.inr ⟨by omega, by simp [h2.1], fun _ => h2.2⟩
    | succ j =>
      simp only [set1, List.getElem?_cons_succ] at h
      rcases set1_at L 0 j v w h with ⟨h1, h2⟩ | ⟨h1, h2, h3⟩
      · exact Or.inl ⟨by omega, h2⟩
      · exact Or.inr ⟨by omega, by simpa using h2, fun q => by omega⟩
  | o :: L, n + 2, j, v, w, h => by
    cases j with
    | zero => simp [set1] at h; exact Or.inr ⟨by omega, by simp [h], fun q => by omega⟩
    | succ j =>
      simp only [set1, List.getElem?_cons_succ] at h
      rcases set1_at L (n + 1) j v w h with ⟨h1, h2⟩ | ⟨h1, h2, h3⟩
      · exact Or.inl ⟨by omega, h2⟩
      · exact Or.inr ⟨by omega, by simpa using h2, fun q => h3 (by omega)⟩
theorem kil0_at {L : List (Option Value)} {j : Nat} {w : Value} (h : (kil0 L)[j]? = some (some w)) : j ≠ 0 ∧ L[j]? = some (some w) := by
  cases L with
  | nil => simp [kil0] at h
  | cons a L =>
    cases j with
    | zero => simp [kil0] at h
    | succ j => exact ⟨by omega, by simpa [kil0] using h⟩
theorem set2_at : ∀ (L : List (Option Value)) (i j : Nat) (v w : Value), (set2 L i v)[j]? = some (some w) → (j = i ∧ w = v) ∨ (j ≠ i ∧ j ≠ i + 1 ∧ L[j]? = some (some w) ∧ (j + 1 = i → ¬ w.category = 2))
  | [], _, _, _, _, h => by simp [set2] at h
  | o :: L, 0, j, v, w, h => by
    cases j with
    | zero => simp [set2] at h; exact Or.inl ⟨rfl, h.symm⟩
    | succ j =>
      simp only [set2, List.getElem?_cons_succ] at h
      have h2 := kil0_at h
      exact Or.inr ⟨by omega, by omega, by simpa using h2.2, fun q => by omega⟩
  | o :: L, 1, j, v, w, h => by
    cases j with
    | zero =>
      simp [set2] at h
      have h2 := k2o_some h
      exact Or.inr ⟨by omega, by omega, by simp [h2.1], fun _ => h2.2⟩
    | succ j =>
      simp only [set2, List.getElem?_cons_succ] at h
      rcases set2_at L 0 j v w h with ⟨h1, h2⟩ | ⟨h1, h2, h3, h4⟩
      · exact Or.inl ⟨by omega, h2⟩
      · exact Or.inr ⟨by omega, by omega, by simpa using h3, fun q => by omega⟩
  | o :: L, n + 2, j, v, w, h => by
    cases j with
    | zero => simp [set2] at h; exact Or.inr ⟨by omega, by omega, by simp [h], fun q => by omega⟩
    | succ j =>
      simp only [set2, List.getElem?_cons_succ] at h
      rcases set2_at L (n + 1) j v w h with ⟨h1, h2⟩ | ⟨h1, h2, h3, h4⟩
      · exact Or.inl ⟨by omega, h2⟩
      · exact Or.inr ⟨by omega, by omega, by simpa using h3, fun q => h4 (by omega)⟩
theorem LR.st1 {ls' : Array Slot} {nL i : Nat} {v : Value} {L : List (Option Value)} (h : lv_has ls' nL ((i, v) :: (asc L).filter (fun q => !(q.1 == i) && !(q.1 + 1 == i && q.2.category == 2)))) : LR ls' nL (set1 L i v) := by
  refine ⟨h.1, h.2.1, fun j w hj => ?_⟩
  rcases set1_at L i j v w hj with ⟨rfl, rfl⟩ | ⟨h1, h2, h3⟩
  · exact h.2.2 _ List.mem_cons_self
  · refine h.2.2 (j, w) (List.mem_cons_of_mem _ (List.mem_filter.mpr ⟨asc_mem.mpr h2, ?_⟩))
    by_cases hq : j + 1 = i
    · simp [h1, hq, h3 hq]
    · simp [h1, hq]
theorem LR.st2 {ls' : Array Slot} {nL i : Nat} {v : Value} {L : List (Option Value)} (h : lv_has ls' nL ((i, v) :: (asc L).filter (fun q => !(q.1 == i) && (!(q.1 == i + 1) && !(q.1 + 1 == i && q.2.category == 2))))) : LR ls' nL (set2 L i v) := by
  refine ⟨h.1, h.2.1, fun j w hj => ?_⟩
  rcases set2_at L i j v w hj with ⟨rfl, rfl⟩ | ⟨h1, h1', h2, h3⟩
  · exact h.2.2 _ List.mem_cons_self
  · refine h.2.2 (j, w) (List.mem_cons_of_mem _ (List.mem_filter.mpr ⟨asc_mem.mpr h2, ?_⟩))
    by_cases hq : j + 1 = i
    · simp [h1, h1', hq, h3 hq]
    · simp [h1, h1', hq]
abbrev Cx : Type := Program × Env × State × MethodId × Array Value × List Frame × Method × Code
def AF (Γ : Cx) (D : va_G) (tys : List (ClassId × FieldType)) (cc : ByteArray) (own : String) (nL : Nat) (ret : Option FieldType) : Prop := match Γ with
  | (p, _, s, m, args, _, meth, c) => p.tables.exec = Jvm.exec ∧ c.code = cc ∧ c.maxLocals = nL ∧ s.vm.findClass own = some m.cls ∧ (∀ w ∈ lw_g, w.before args s = true) ∧ va_K D vwCl tys s ∧ meth.locks = false ∧ meth.sig.returnType = ret ∧ ∀ w ∈ lw_n, va_Nw w s
/-- from this place on: where E tells z, the machine comes to the method's end -/
def AG (Γ : Cx) (l : Launch) (R : Room) (A : Nat → Prop) (D : va_G) (tys : List (ClassId × FieldType)) (cc : ByteArray) (own : String) (nL : Nat) (ret : Option FieldType) (Qc : Array Value → State → Outcome → State → Prop) (mc ms : Nat) {ρ : Type} (E z : ρ) (pc : Nat) (L : List (Option Value)) (st : List Value) (ws : va_W) (cells slots : Nat) : Prop := match Γ with
  | (p, e, s, m, args, below, meth, c) => AF (p, e, s, m, args, below, meth, c) D tys cc own nL ret → E = z → ∀ (H : Heap) (locs : List Loc) (ls : Array Slot), LR ls nL L → va_P D vwCl ws H → va_D A ws → va_S A s.heap H locs → W p l e R s m args below meth c H locs cells slots (MQ below Qc args s mc ms A) (F0 m pc ls st)
/-! the words that E is made of -/
def lt {α β : Type} (v : α) (K : α → β) : β := K v
def jn {α β : Type} (F : α) (B : α → β) : β := B F
def chk {α : Type} (b : Prop) [Decidable b] (E : Option α) : Option α := if b then E else none
def bnd {α β : Type} (E : Option α) (K : α → Option β) : Option β := match E with
  | some r => K r
  | none => none
def onn {α β : Type} (r : Option α) (E1 : β) (E2 : α → β) : β := match r with
  | none => E1
  | some a => E2 a
def b2i (b : Bool) : Int32 := if b then 1 else 0
def i2b (x : Int32) : Bool := decide (x ≠ 0)
abbrev inb (i : Int32) (n : Nat) : Prop := 0 ≤ i.toInt ∧ i.toInt < (n : Int)
theorem inb_dec (i : Int32) (n : Nat) : (0 ≤ i.toInt ∧ i.toInt < (n : Int)) = inb i n := rfl
theorem vp_of_inb {i : Int32} {n : Nat} (h : 0 ≤ i.toInt ∧ i.toInt < (n : Int)) : vp_in i n := vp_in_iff.mpr h
section AGS
variable {Γ : Cx} {l : Launch} {R : Room} {A : Nat → Prop} {D : va_G} {tys : List (ClassId × FieldType)} {cc : ByteArray} {own : String} {nL : Nat} {ret : Option FieldType} {Qc : Array Value → State → Outcome → State → Prop} {mc ms : Nat} {ρ : Type} {E z : ρ} {pc : Nat} {L : List (Option Value)} {st : List Value} {ws : va_W} {cells slots : Nat}
theorem ag_iconst {n : Int} {v : Int32} (hd : decode cc pc = .ok (.iconst n, 1)) (hv : Int32.ofInt n = v) (k : AG Γ l R A D tys cc own nL ret Qc mc ms E z (pc + 1) L (.int v :: st) ws cells slots) : AG Γ l R A D tys cc own nL ret Qc mc ms E z pc L st ws cells slots := by
  obtain ⟨p, e, s, m, args, below, meth, c⟩ := Γ
  intro hA hE H locs ls hL hP hD hS
  exact lv_iconst hA.1 hA.2.1 hd hv (k hA hE H locs ls hL hP hD hS)
theorem ag_bipush {n : Int} {v : Int32} (hd : decode cc pc = .ok (.bipush n, 2)) (hv : (Int8.ofInt n).toInt32 = v) (k : AG Γ l R A D tys cc own nL ret Qc mc ms E z (pc + 2) L (.int v :: st) ws cells slots) : AG Γ l R A D tys cc own nL ret Qc mc ms E z pc L st ws cells slots := by
  obtain ⟨p, e, s, m, args, below, meth, c⟩ := Γ
  intro hA hE H locs ls hL hP hD hS
  exact lv_bipush hA.1 hA.2.1 hd hv (k hA hE H locs ls hL hP hD hS)
theorem ag_sipush {n : Int} {v : Int32} (hd : decode cc pc = .ok (.sipush n, 3)) (hv : (Int16.ofInt n).toInt32 = v) (k : AG Γ l R A D tys cc own nL ret Qc mc ms E z (pc + 3) L (.int v :: st) ws cells slots) : AG Γ l R A D tys cc own nL ret Qc mc ms E z pc L st ws cells slots := by
  obtain ⟨p, e, s, m, args, below, meth, c⟩ := Γ
  intro hA hE H locs ls hL hP hD hS
  exact lv_sipush hA.1 hA.2.1 hd hv (k hA hE H locs ls hL hP hD hS)
theorem ag_lconst {n : Fin 2} {v : Int64} (hd : decode cc pc = .ok (.lconst n, 1)) (hv : Int64.ofNat (n : Nat) = v) (k : AG Γ l R A D tys cc own nL ret Qc mc ms E z (pc + 1) L (.long v :: st) ws cells slots) : AG Γ l R A D tys cc own nL ret Qc mc ms E z pc L st ws cells slots := by
  obtain ⟨p, e, s, m, args, below, meth, c⟩ := Γ
  intro hA hE H locs ls hL hP hD hS
  exact lv_lconst hA.1 hA.2.1 hd hv (k hA hE H locs ls hL hP hD hS)
theorem ag_null  (hd : decode cc pc = .ok (.aconst_null, 1)) (k : AG Γ l R A D tys cc own nL ret Qc mc ms E z (pc + 1) L (.null :: st) ws cells slots) : AG Γ l R A D tys cc own nL ret Qc mc ms E z pc L st ws cells slots := by
  obtain ⟨p, e, s, m, args, below, meth, c⟩ := Γ
  intro hA hE H locs ls hL hP hD hS
  exact lv_null hA.1 hA.2.1 hd (k hA hE H locs ls hL hP hD hS)
theorem ag_ldc {index : Nat} {v : Int32} (hw : Jvm.Cond.constant own index v ∈ lw_g) (hd : decode cc pc = .ok (.ldc index, 2)) (k : AG Γ l R A D tys cc own nL ret Qc mc ms E z (pc + 2) L (.int v :: st) ws cells slots) : AG Γ l R A D tys cc own nL ret Qc mc ms E z pc L st ws cells slots := by
  obtain ⟨p, e, s, m, args, below, meth, c⟩ := Γ
  intro hA hE H locs ls hL hP hD hS
  exact lv_ldc hA.1 hA.2.1 hA.2.2.2.1 (hA.2.2.2.2.1 _ hw) hd (k hA hE H locs ls hL hP hD hS)
theorem ag_ldcw {index : Nat} {v : Int32} (hw : Jvm.Cond.constant own index v ∈ lw_g) (hd : decode cc pc = .ok (.ldc_w index, 3)) (k : AG Γ l R A D tys cc own nL ret Qc mc ms E z (pc + 3) L (.int v :: st) ws cells slots) : AG Γ l R A D tys cc own nL ret Qc mc ms E z pc L st ws cells slots := by
  obtain ⟨p, e, s, m, args, below, meth, c⟩ := Γ
  intro hA hE H locs ls hL hP hD hS
  exact lv_ldcw hA.1 hA.2.1 hA.2.2.2.1 (hA.2.2.2.2.1 _ hw) hd (k hA hE H locs ls hL hP hD hS)
theorem ag_ldc2 {index : Nat} {v : Int64} (hw : Jvm.Cond.constantLong own index v ∈ lw_g) (hd : decode cc pc = .ok (.ldc2_w index, 3)) (k : AG Γ l R A D tys cc own nL ret Qc mc ms E z (pc + 3) L (.long v :: st) ws cells slots) : AG Γ l R A D tys cc own nL ret Qc mc ms E z pc L st ws cells slots := by
  obtain ⟨p, e, s, m, args, below, meth, c⟩ := Γ
  intro hA hE H locs ls hL hP hD hS
  exact lv_ldc2 hA.1 hA.2.1 hA.2.2.2.1 (hA.2.2.2.2.1 _ hw) hd (k hA hE H locs ls hL hP hD hS)
theorem ag_iload_n {k0 : Fin 4} {x : Int32} (hd : decode cc pc = .ok (.iload_n k0, 1)) (hl : L[(k0 : Nat)]? = some (some (.int x))) (k : AG Γ l R A D tys cc own nL ret Qc mc ms E z (pc + 1) L (.int x :: st) ws cells slots) : AG Γ l R A D tys cc own nL ret Qc mc ms E z pc L st ws cells slots := by
  obtain ⟨p, e, s, m, args, below, meth, c⟩ := Γ
  intro hA hE H locs ls hL hP hD hS
  exact lv_iload_n hA.1 hA.2.1 hd rfl (hL.2.2 _ _ hl) (k hA hE H locs ls hL hP hD hS)
theorem ag_iload {i : Nat} {x : Int32} (hd : decode cc pc = .ok (.iload i, 2)) (hl : L[i]? = some (some (.int x))) (k : AG Γ l R A D tys cc own nL ret Qc mc ms E z (pc + 2) L (.int x :: st) ws cells slots) : AG Γ l R A D tys cc own nL ret Qc mc ms E z pc L st ws cells slots := by
  obtain ⟨p, e, s, m, args, below, meth, c⟩ := Γ
  intro hA hE H locs ls hL hP hD hS
  exact lv_iload hA.1 hA.2.1 hd (hL.2.2 _ _ hl) (k hA hE H locs ls hL hP hD hS)
theorem ag_lload_n {k0 : Fin 4} {x : Int64} (hd : decode cc pc = .ok (.lload_n k0, 1)) (hl : L[(k0 : Nat)]? = some (some (.long x))) (k : AG Γ l R A D tys cc own nL ret Qc mc ms E z (pc + 1) L (.long x :: st) ws cells slots) : AG Γ l R A D tys cc own nL ret Qc mc ms E z pc L st ws cells slots := by
  obtain ⟨p, e, s, m, args, below, meth, c⟩ := Γ
  intro hA hE H locs ls hL hP hD hS
  exact lv_lload_n hA.1 hA.2.1 hd rfl (hL.2.2 _ _ hl) (k hA hE H locs ls hL hP hD hS)
theorem ag_lload {i : Nat} {x : Int64} (hd : decode cc pc = .ok (.lload i, 2)) (hl : L[i]? = some (some (.long x))) (k : AG Γ l R A D tys cc own nL ret Qc mc ms E z (pc + 2) L (.long x :: st) ws cells slots) : AG Γ l R A D tys cc own nL ret Qc mc ms E z pc L st ws cells slots := by
  obtain ⟨p, e, s, m, args, below, meth, c⟩ := Γ
  intro hA hE H locs ls hL hP hD hS
  exact lv_lload hA.1 hA.2.1 hd (hL.2.2 _ _ hl) (k hA hE H locs ls hL hP hD hS)
theorem ag_aload_n {k0 : Fin 4} {x : Nat} (hd : decode cc pc = .ok (.aload_n k0, 1)) (hl : L[(k0 : Nat)]? = some (some (.ref x))) (k : AG Γ l R A D tys cc own nL ret Qc mc ms E z (pc + 1) L (.ref x :: st) ws cells slots) : AG Γ l R A D tys cc own nL ret Qc mc ms E z pc L st ws cells slots := by
  obtain ⟨p, e, s, m, args, below, meth, c⟩ := Γ
  intro hA hE H locs ls hL hP hD hS
  exact lv_aload_n hA.1 hA.2.1 hd rfl (hL.2.2 _ _ hl) (k hA hE H locs ls hL hP hD hS)
theorem ag_aload {i : Nat} {x : Nat} (hd : decode cc pc = .ok (.aload i, 2)) (hl : L[i]? = some (some (.ref x))) (k : AG Γ l R A D tys cc own nL ret Qc mc ms E z (pc + 2) L (.ref x :: st) ws cells slots) : AG Γ l R A D tys cc own nL ret Qc mc ms E z pc L st ws cells slots := by
  obtain ⟨p, e, s, m, args, below, meth, c⟩ := Γ
  intro hA hE H locs ls hL hP hD hS
  exact lv_aload hA.1 hA.2.1 hd (hL.2.2 _ _ hl) (k hA hE H locs ls hL hP hD hS)
theorem ag_nload_n {k0 : Fin 4} (hd : decode cc pc = .ok (.aload_n k0, 1)) (hl : L[(k0 : Nat)]? = some (some .null)) (k : AG Γ l R A D tys cc own nL ret Qc mc ms E z (pc + 1) L (.null :: st) ws cells slots) : AG Γ l R A D tys cc own nL ret Qc mc ms E z pc L st ws cells slots := by
  obtain ⟨p, e, s, m, args, below, meth, c⟩ := Γ
  intro hA hE H locs ls hL hP hD hS
  exact lv_aload_nN hA.1 hA.2.1 hd rfl (hL.2.2 _ _ hl) (k hA hE H locs ls hL hP hD hS)
theorem ag_nload {i : Nat} (hd : decode cc pc = .ok (.aload i, 2)) (hl : L[i]? = some (some .null)) (k : AG Γ l R A D tys cc own nL ret Qc mc ms E z (pc + 2) L (.null :: st) ws cells slots) : AG Γ l R A D tys cc own nL ret Qc mc ms E z pc L st ws cells slots := by
  obtain ⟨p, e, s, m, args, below, meth, c⟩ := Γ
  intro hA hE H locs ls hL hP hD hS
  exact lv_aloadN hA.1 hA.2.1 hd (hL.2.2 _ _ hl) (k hA hE H locs ls hL hP hD hS)
theorem ag_istore_n {k0 : Fin 4} {x : Int32} {L' : List (Option Value)} (hd : decode cc pc = .ok (.istore_n k0, 1)) (hn : (k0 : Nat) < nL) (hl : set1 L (k0 : Nat) (.int x) = L') (k : AG Γ l R A D tys cc own nL ret Qc mc ms E z (pc + 1) L' st ws cells slots) : AG Γ l R A D tys cc own nL ret Qc mc ms E z pc L (.int x :: st) ws cells slots := by
  obtain ⟨p, e, s, m, args, below, meth, c⟩ := Γ
  intro hA hE H locs ls hL hP hD hS
  subst hl
  exact lv_istore_n hA.1 hA.2.1 hd rfl hL.has hn rfl (fun ls' hl' => k hA hE H locs ls' (LR.st1 hl') hP hD hS)
theorem ag_istore {i : Nat} {x : Int32} {L' : List (Option Value)} (hd : decode cc pc = .ok (.istore i, 2)) (hn : i < nL) (hl : set1 L i (.int x) = L') (k : AG Γ l R A D tys cc own nL ret Qc mc ms E z (pc + 2) L' st ws cells slots) : AG Γ l R A D tys cc own nL ret Qc mc ms E z pc L (.int x :: st) ws cells slots := by
  obtain ⟨p, e, s, m, args, below, meth, c⟩ := Γ
  intro hA hE H locs ls hL hP hD hS
  subst hl
  exact lv_istore hA.1 hA.2.1 hd hL.has hn rfl (fun ls' hl' => k hA hE H locs ls' (LR.st1 hl') hP hD hS)
theorem ag_lstore_n {k0 : Fin 4} {x : Int64} {L' : List (Option Value)} (hd : decode cc pc = .ok (.lstore_n k0, 1)) (hn : (k0 : Nat) + 1 < nL) (hl : set2 L (k0 : Nat) (.long x) = L') (k : AG Γ l R A D tys cc own nL ret Qc mc ms E z (pc + 1) L' st ws cells slots) : AG Γ l R A D tys cc own nL ret Qc mc ms E z pc L (.long x :: st) ws cells slots := by
  obtain ⟨p, e, s, m, args, below, meth, c⟩ := Γ
  intro hA hE H locs ls hL hP hD hS
  subst hl
  exact lv_lstore_n hA.1 hA.2.1 hd rfl hL.has hn rfl (fun ls' hl' => k hA hE H locs ls' (LR.st2 hl') hP hD hS)
theorem ag_lstore {i : Nat} {x : Int64} {L' : List (Option Value)} (hd : decode cc pc = .ok (.lstore i, 2)) (hn : i + 1 < nL) (hl : set2 L i (.long x) = L') (k : AG Γ l R A D tys cc own nL ret Qc mc ms E z (pc + 2) L' st ws cells slots) : AG Γ l R A D tys cc own nL ret Qc mc ms E z pc L (.long x :: st) ws cells slots := by
  obtain ⟨p, e, s, m, args, below, meth, c⟩ := Γ
  intro hA hE H locs ls hL hP hD hS
  subst hl
  exact lv_lstore hA.1 hA.2.1 hd hL.has hn rfl (fun ls' hl' => k hA hE H locs ls' (LR.st2 hl') hP hD hS)
theorem ag_astore_n {k0 : Fin 4} {x : Nat} {L' : List (Option Value)} (hd : decode cc pc = .ok (.astore_n k0, 1)) (hn : (k0 : Nat) < nL) (hl : set1 L (k0 : Nat) (.ref x) = L') (k : AG Γ l R A D tys cc own nL ret Qc mc ms E z (pc + 1) L' st ws cells slots) : AG Γ l R A D tys cc own nL ret Qc mc ms E z pc L (.ref x :: st) ws cells slots := by
  obtain ⟨p, e, s, m, args, below, meth, c⟩ := Γ
  intro hA hE H locs ls hL hP hD hS
  subst hl
  exact lv_astore_n hA.1 hA.2.1 hd rfl hL.has hn rfl (fun ls' hl' => k hA hE H locs ls' (LR.st1 hl') hP hD hS)
theorem ag_astore {i : Nat} {x : Nat} {L' : List (Option Value)} (hd : decode cc pc = .ok (.astore i, 2)) (hn : i < nL) (hl : set1 L i (.ref x) = L') (k : AG Γ l R A D tys cc own nL ret Qc mc ms E z (pc + 2) L' st ws cells slots) : AG Γ l R A D tys cc own nL ret Qc mc ms E z pc L (.ref x :: st) ws cells slots := by
  obtain ⟨p, e, s, m, args, below, meth, c⟩ := Γ
  intro hA hE H locs ls hL hP hD hS
  subst hl
  exact lv_astore hA.1 hA.2.1 hd hL.has hn rfl (fun ls' hl' => k hA hE H locs ls' (LR.st1 hl') hP hD hS)
theorem ag_nstore_n {k0 : Fin 4} {L' : List (Option Value)} (hd : decode cc pc = .ok (.astore_n k0, 1)) (hn : (k0 : Nat) < nL) (hl : set1 L (k0 : Nat) .null = L') (k : AG Γ l R A D tys cc own nL ret Qc mc ms E z (pc + 1) L' st ws cells slots) : AG Γ l R A D tys cc own nL ret Qc mc ms E z pc L (.null :: st) ws cells slots := by
  obtain ⟨p, e, s, m, args, below, meth, c⟩ := Γ
  intro hA hE H locs ls hL hP hD hS
  subst hl
  exact lv_astore_nN hA.1 hA.2.1 hd rfl hL.has hn rfl (fun ls' hl' => k hA hE H locs ls' (LR.st1 hl') hP hD hS)
theorem ag_nstore {i : Nat} {L' : List (Option Value)} (hd : decode cc pc = .ok (.astore i, 2)) (hn : i < nL) (hl : set1 L i .null = L') (k : AG Γ l R A D tys cc own nL ret Qc mc ms E z (pc + 2) L' st ws cells slots) : AG Γ l R A D tys cc own nL ret Qc mc ms E z pc L (.null :: st) ws cells slots := by
  obtain ⟨p, e, s, m, args, below, meth, c⟩ := Γ
  intro hA hE H locs ls hL hP hD hS
  subst hl
  exact lv_astoreN hA.1 hA.2.1 hd hL.has hn rfl (fun ls' hl' => k hA hE H locs ls' (LR.st1 hl') hP hD hS)
theorem asc_idx {L : List (Option Value)} {i : Nat} {v : Value} (h : L[i]? = some (some v)) : ∃ k : Nat, (asc L)[k]? = some (i, v) := List.getElem?_of_mem (asc_mem.mpr h)
theorem ag_iinc {i : Nat} {n : Int} {x v : Int32} {L' : List (Option Value)} (hd : decode cc pc = .ok (.iinc i n, 3)) (hx : L[i]? = some (some (.int x))) (hv : x + Int32.ofInt n = v) (hn : i < nL) (hl : set1 L i (.int v) = L') (k : AG Γ l R A D tys cc own nL ret Qc mc ms E z (pc + 3) L' st ws cells slots) : AG Γ l R A D tys cc own nL ret Qc mc ms E z pc L st ws cells slots := by
  obtain ⟨p, e, s, m, args, below, meth, c⟩ := Γ
  intro hA hE H locs ls hL hP hD hS
  subst hl
  obtain ⟨k1, hk1⟩ := asc_idx hx
  exact lv_iinc hA.1 hA.2.1 hd hL.has hk1 hv hn rfl (fun ls' hl' => k hA hE H locs ls' (LR.st1 hl') hP hD hS)
theorem ag_iadd {x y : Int32} (hd : decode cc pc = .ok (.iadd, 1))  (k : AG Γ l R A D tys cc own nL ret Qc mc ms E z (pc + 1) L (.int (x + y) :: st) ws cells slots) : AG Γ l R A D tys cc own nL ret Qc mc ms E z pc L (.int y :: .int x :: st) ws cells slots := by
  obtain ⟨p, e, s, m, args, below, meth, c⟩ := Γ
  intro hA hE H locs ls hL hP hD hS
  exact lv_iadd hA.1 hA.2.1 hd (k hA hE H locs ls hL hP hD hS)
theorem ag_isub {x y : Int32} (hd : decode cc pc = .ok (.isub, 1))  (k : AG Γ l R A D tys cc own nL ret Qc mc ms E z (pc + 1) L (.int (x - y) :: st) ws cells slots) : AG Γ l R A D tys cc own nL ret Qc mc ms E z pc L (.int y :: .int x :: st) ws cells slots := by
  obtain ⟨p, e, s, m, args, below, meth, c⟩ := Γ
  intro hA hE H locs ls hL hP hD hS
  exact lv_isub hA.1 hA.2.1 hd (k hA hE H locs ls hL hP hD hS)
theorem ag_imul {x y : Int32} (hd : decode cc pc = .ok (.imul, 1))  (k : AG Γ l R A D tys cc own nL ret Qc mc ms E z (pc + 1) L (.int (x * y) :: st) ws cells slots) : AG Γ l R A D tys cc own nL ret Qc mc ms E z pc L (.int y :: .int x :: st) ws cells slots := by
  obtain ⟨p, e, s, m, args, below, meth, c⟩ := Γ
  intro hA hE H locs ls hL hP hD hS
  exact lv_imul hA.1 hA.2.1 hd (k hA hE H locs ls hL hP hD hS)
theorem ag_iand {x y : Int32} (hd : decode cc pc = .ok (.iand, 1))  (k : AG Γ l R A D tys cc own nL ret Qc mc ms E z (pc + 1) L (.int (x &&& y) :: st) ws cells slots) : AG Γ l R A D tys cc own nL ret Qc mc ms E z pc L (.int y :: .int x :: st) ws cells slots := by
  obtain ⟨p, e, s, m, args, below, meth, c⟩ := Γ
  intro hA hE H locs ls hL hP hD hS
  exact lv_iand hA.1 hA.2.1 hd (k hA hE H locs ls hL hP hD hS)
theorem ag_ior {x y : Int32} (hd : decode cc pc = .ok (.ior, 1))  (k : AG Γ l R A D tys cc own nL ret Qc mc ms E z (pc + 1) L (.int (x ||| y) :: st) ws cells slots) : AG Γ l R A D tys cc own nL ret Qc mc ms E z pc L (.int y :: .int x :: st) ws cells slots := by
  obtain ⟨p, e, s, m, args, below, meth, c⟩ := Γ
  intro hA hE H locs ls hL hP hD hS
  exact lv_ior hA.1 hA.2.1 hd (k hA hE H locs ls hL hP hD hS)
theorem ag_ixor {x y : Int32} (hd : decode cc pc = .ok (.ixor, 1))  (k : AG Γ l R A D tys cc own nL ret Qc mc ms E z (pc + 1) L (.int (x ^^^ y) :: st) ws cells slots) : AG Γ l R A D tys cc own nL ret Qc mc ms E z pc L (.int y :: .int x :: st) ws cells slots := by
  obtain ⟨p, e, s, m, args, below, meth, c⟩ := Γ
  intro hA hE H locs ls hL hP hD hS
  exact lv_ixor hA.1 hA.2.1 hd (k hA hE H locs ls hL hP hD hS)
theorem ag_idiv {x y : Int32} (hd : decode cc pc = .ok (.idiv, 1)) (hne : ¬ y = 0) (k : AG Γ l R A D tys cc own nL ret Qc mc ms E z (pc + 1) L (.int (x / y) :: st) ws cells slots) : AG Γ l R A D tys cc own nL ret Qc mc ms E z pc L (.int y :: .int x :: st) ws cells slots := by
  obtain ⟨p, e, s, m, args, below, meth, c⟩ := Γ
  intro hA hE H locs ls hL hP hD hS
  exact lv_idiv hA.1 hA.2.1 hd hne (k hA hE H locs ls hL hP hD hS)
theorem ag_irem {x y : Int32} (hd : decode cc pc = .ok (.irem, 1)) (hne : ¬ y = 0) (k : AG Γ l R A D tys cc own nL ret Qc mc ms E z (pc + 1) L (.int (x - x / y * y) :: st) ws cells slots) : AG Γ l R A D tys cc own nL ret Qc mc ms E z pc L (.int y :: .int x :: st) ws cells slots := by
  obtain ⟨p, e, s, m, args, below, meth, c⟩ := Γ
  intro hA hE H locs ls hL hP hD hS
  exact lv_irem hA.1 hA.2.1 hd hne (k hA hE H locs ls hL hP hD hS)
theorem ag_ineg {x : Int32} (hd : decode cc pc = .ok (.ineg, 1))  (k : AG Γ l R A D tys cc own nL ret Qc mc ms E z (pc + 1) L (.int (-x) :: st) ws cells slots) : AG Γ l R A D tys cc own nL ret Qc mc ms E z pc L (.int x :: st) ws cells slots := by
  obtain ⟨p, e, s, m, args, below, meth, c⟩ := Γ
  intro hA hE H locs ls hL hP hD hS
  exact lv_ineg hA.1 hA.2.1 hd (k hA hE H locs ls hL hP hD hS)
theorem ag_ladd {x y : Int64} (hd : decode cc pc = .ok (.ladd, 1))  (k : AG Γ l R A D tys cc own nL ret Qc mc ms E z (pc + 1) L (.long (x + y) :: st) ws cells slots) : AG Γ l R A D tys cc own nL ret Qc mc ms E z pc L (.long y :: .long x :: st) ws cells slots := by
  obtain ⟨p, e, s, m, args, below, meth, c⟩ := Γ
  intro hA hE H locs ls hL hP hD hS
  exact lv_ladd hA.1 hA.2.1 hd (k hA hE H locs ls hL hP hD hS)
theorem ag_lsub {x y : Int64} (hd : decode cc pc = .ok (.lsub, 1))  (k : AG Γ l R A D tys cc own nL ret Qc mc ms E z (pc + 1) L (.long (x - y) :: st) ws cells slots) : AG Γ l R A D tys cc own nL ret Qc mc ms E z pc L (.long y :: .long x :: st) ws cells slots := by
  obtain ⟨p, e, s, m, args, below, meth, c⟩ := Γ
  intro hA hE H locs ls hL hP hD hS
  exact lv_lsub hA.1 hA.2.1 hd (k hA hE H locs ls hL hP hD hS)
theorem ag_lmul {x y : Int64} (hd : decode cc pc = .ok (.lmul, 1))  (k : AG Γ l R A D tys cc own nL ret Qc mc ms E z (pc + 1) L (.long (x * y) :: st) ws cells slots) : AG Γ l R A D tys cc own nL ret Qc mc ms E z pc L (.long y :: .long x :: st) ws cells slots := by
  obtain ⟨p, e, s, m, args, below, meth, c⟩ := Γ
  intro hA hE H locs ls hL hP hD hS
  exact lv_lmul hA.1 hA.2.1 hd (k hA hE H locs ls hL hP hD hS)
theorem ag_land {x y : Int64} (hd : decode cc pc = .ok (.land, 1))  (k : AG Γ l R A D tys cc own nL ret Qc mc ms E z (pc + 1) L (.long (x &&& y) :: st) ws cells slots) : AG Γ l R A D tys cc own nL ret Qc mc ms E z pc L (.long y :: .long x :: st) ws cells slots := by
  obtain ⟨p, e, s, m, args, below, meth, c⟩ := Γ
  intro hA hE H locs ls hL hP hD hS
  exact lv_land hA.1 hA.2.1 hd (k hA hE H locs ls hL hP hD hS)
theorem ag_lor {x y : Int64} (hd : decode cc pc = .ok (.lor, 1))  (k : AG Γ l R A D tys cc own nL ret Qc mc ms E z (pc + 1) L (.long (x ||| y) :: st) ws cells slots) : AG Γ l R A D tys cc own nL ret Qc mc ms E z pc L (.long y :: .long x :: st) ws cells slots := by
  obtain ⟨p, e, s, m, args, below, meth, c⟩ := Γ
  intro hA hE H locs ls hL hP hD hS
  exact lv_lor hA.1 hA.2.1 hd (k hA hE H locs ls hL hP hD hS)
theorem ag_lxor {x y : Int64} (hd : decode cc pc = .ok (.lxor, 1))  (k : AG Γ l R A D tys cc own nL ret Qc mc ms E z (pc + 1) L (.long (x ^^^ y) :: st) ws cells slots) : AG Γ l R A D tys cc own nL ret Qc mc ms E z pc L (.long y :: .long x :: st) ws cells slots := by
  obtain ⟨p, e, s, m, args, below, meth, c⟩ := Γ
  intro hA hE H locs ls hL hP hD hS
  exact lv_lxor hA.1 hA.2.1 hd (k hA hE H locs ls hL hP hD hS)
theorem ag_ldiv {x y : Int64} (hd : decode cc pc = .ok (.ldiv, 1)) (hne : ¬ y = 0) (k : AG Γ l R A D tys cc own nL ret Qc mc ms E z (pc + 1) L (.long (x / y) :: st) ws cells slots) : AG Γ l R A D tys cc own nL ret Qc mc ms E z pc L (.long y :: .long x :: st) ws cells slots := by
  obtain ⟨p, e, s, m, args, below, meth, c⟩ := Γ
  intro hA hE H locs ls hL hP hD hS
  exact lv_ldiv hA.1 hA.2.1 hd hne (k hA hE H locs ls hL hP hD hS)
theorem ag_lrem {x y : Int64} (hd : decode cc pc = .ok (.lrem, 1)) (hne : ¬ y = 0) (k : AG Γ l R A D tys cc own nL ret Qc mc ms E z (pc + 1) L (.long (x - x / y * y) :: st) ws cells slots) : AG Γ l R A D tys cc own nL ret Qc mc ms E z pc L (.long y :: .long x :: st) ws cells slots := by
  obtain ⟨p, e, s, m, args, below, meth, c⟩ := Γ
  intro hA hE H locs ls hL hP hD hS
  exact lv_lrem hA.1 hA.2.1 hd hne (k hA hE H locs ls hL hP hD hS)
theorem ag_ishl {x y : Int32} (hd : decode cc pc = .ok (.ishl, 1))  (k : AG Γ l R A D tys cc own nL ret Qc mc ms E z (pc + 1) L (.int (x <<< (y &&& 31)) :: st) ws cells slots) : AG Γ l R A D tys cc own nL ret Qc mc ms E z pc L (.int y :: .int x :: st) ws cells slots := by
  obtain ⟨p, e, s, m, args, below, meth, c⟩ := Γ
  intro hA hE H locs ls hL hP hD hS
  exact lv_ishl hA.1 hA.2.1 hd (k hA hE H locs ls hL hP hD hS)
theorem ag_ishr {x y : Int32} (hd : decode cc pc = .ok (.ishr, 1))  (k : AG Γ l R A D tys cc own nL ret Qc mc ms E z (pc + 1) L (.int (x >>> (y &&& 31)) :: st) ws cells slots) : AG Γ l R A D tys cc own nL ret Qc mc ms E z pc L (.int y :: .int x :: st) ws cells slots := by
  obtain ⟨p, e, s, m, args, below, meth, c⟩ := Γ
  intro hA hE H locs ls hL hP hD hS
  exact lv_ishr hA.1 hA.2.1 hd (k hA hE H locs ls hL hP hD hS)
theorem ag_i2l {x : Int32} (hd : decode cc pc = .ok (.i2l, 1)) (k : AG Γ l R A D tys cc own nL ret Qc mc ms E z (pc + 1) L (.long x.toInt64 :: st) ws cells slots) : AG Γ l R A D tys cc own nL ret Qc mc ms E z pc L (.int x :: st) ws cells slots := by
  obtain ⟨p, e, s, m, args, below, meth, c⟩ := Γ
  intro hA hE H locs ls hL hP hD hS
  exact lv_i2l hA.1 hA.2.1 hd rfl (k hA hE H locs ls hL hP hD hS)
theorem ag_l2i {x : Int64} (hd : decode cc pc = .ok (.l2i, 1)) (k : AG Γ l R A D tys cc own nL ret Qc mc ms E z (pc + 1) L (.int x.toInt32 :: st) ws cells slots) : AG Γ l R A D tys cc own nL ret Qc mc ms E z pc L (.long x :: st) ws cells slots := by
  obtain ⟨p, e, s, m, args, below, meth, c⟩ := Γ
  intro hA hE H locs ls hL hP hD hS
  exact lv_l2i hA.1 hA.2.1 hd rfl (k hA hE H locs ls hL hP hD hS)
theorem ag_i2b {x : Int32} (hd : decode cc pc = .ok (.i2b, 1)) (k : AG Γ l R A D tys cc own nL ret Qc mc ms E z (pc + 1) L (.int x.toInt8.toInt32 :: st) ws cells slots) : AG Γ l R A D tys cc own nL ret Qc mc ms E z pc L (.int x :: st) ws cells slots := by
  obtain ⟨p, e, s, m, args, below, meth, c⟩ := Γ
  intro hA hE H locs ls hL hP hD hS
  exact lv_i2b hA.1 hA.2.1 hd rfl (k hA hE H locs ls hL hP hD hS)
theorem ag_i2s {x : Int32} (hd : decode cc pc = .ok (.i2s, 1)) (k : AG Γ l R A D tys cc own nL ret Qc mc ms E z (pc + 1) L (.int x.toInt16.toInt32 :: st) ws cells slots) : AG Γ l R A D tys cc own nL ret Qc mc ms E z pc L (.int x :: st) ws cells slots := by
  obtain ⟨p, e, s, m, args, below, meth, c⟩ := Γ
  intro hA hE H locs ls hL hP hD hS
  exact lv_i2s hA.1 hA.2.1 hd rfl (k hA hE H locs ls hL hP hD hS)
theorem ag_iushr {x y : Int32} (hd : decode cc pc = .ok (.iushr, 1)) (k : AG Γ l R A D tys cc own nL ret Qc mc ms E z (pc + 1) L (.int (x.toUInt32 >>> (y.toUInt32 &&& Int32.toUInt32 31)).toInt32 :: st) ws cells slots) : AG Γ l R A D tys cc own nL ret Qc mc ms E z pc L (.int y :: .int x :: st) ws cells slots := by
  obtain ⟨p, e, s, m, args, below, meth, c⟩ := Γ
  intro hA hE H locs ls hL hP hD hS
  exact lv_iushr hA.1 hA.2.1 hd rfl (k hA hE H locs ls hL hP hD hS)
theorem ag_lushr {x : Int64} {y : Int32} (hd : decode cc pc = .ok (.lushr, 1)) (k : AG Γ l R A D tys cc own nL ret Qc mc ms E z (pc + 1) L (.long (x.toUInt64 >>> (y.toInt64.toUInt64 &&& Int64.toUInt64 63)).toInt64 :: st) ws cells slots) : AG Γ l R A D tys cc own nL ret Qc mc ms E z pc L (.int y :: .long x :: st) ws cells slots := by
  obtain ⟨p, e, s, m, args, below, meth, c⟩ := Γ
  intro hA hE H locs ls hL hP hD hS
  exact lv_lushr hA.1 hA.2.1 hd rfl (k hA hE H locs ls hL hP hD hS)
theorem ag_lshl {x : Int64} {y : Int32} (hd : decode cc pc = .ok (.lshl, 1)) (k : AG Γ l R A D tys cc own nL ret Qc mc ms E z (pc + 1) L (.long (x <<< (y.toInt64 &&& 63)) :: st) ws cells slots) : AG Γ l R A D tys cc own nL ret Qc mc ms E z pc L (.int y :: .long x :: st) ws cells slots := by
  obtain ⟨p, e, s, m, args, below, meth, c⟩ := Γ
  intro hA hE H locs ls hL hP hD hS
  exact lv_lshl hA.1 hA.2.1 hd rfl (k hA hE H locs ls hL hP hD hS)
theorem ag_lshr {x : Int64} {y : Int32} (hd : decode cc pc = .ok (.lshr, 1)) (k : AG Γ l R A D tys cc own nL ret Qc mc ms E z (pc + 1) L (.long (x >>> (y.toInt64 &&& 63)) :: st) ws cells slots) : AG Γ l R A D tys cc own nL ret Qc mc ms E z pc L (.int y :: .long x :: st) ws cells slots := by
  obtain ⟨p, e, s, m, args, below, meth, c⟩ := Γ
  intro hA hE H locs ls hL hP hD hS
  exact lv_lshr hA.1 hA.2.1 hd rfl (k hA hE H locs ls hL hP hD hS)
theorem ag_lcmp {x y : Int64} (hd : decode cc pc = .ok (.lcmp, 1)) (k : AG Γ l R A D tys cc own nL ret Qc mc ms E z (pc + 1) L (.int (lg_cmp x y) :: st) ws cells slots) : AG Γ l R A D tys cc own nL ret Qc mc ms E z pc L (.long y :: .long x :: st) ws cells slots := by
  obtain ⟨p, e, s, m, args, below, meth, c⟩ := Γ
  intro hA hE H locs ls hL hP hD hS
  exact W.lcmp hA.1 hA.2.1 hd (k hA hE H locs ls hL hP hD hS)
theorem ag_dup {va : Value} (hd : decode cc pc = .ok (.dup, 1)) (hva : va.category = 1) (k : AG Γ l R A D tys cc own nL ret Qc mc ms E z (pc + 1) L (va :: va :: st) ws cells slots) : AG Γ l R A D tys cc own nL ret Qc mc ms E z pc L (va :: st) ws cells slots := by
  obtain ⟨p, e, s, m, args, below, meth, c⟩ := Γ
  intro hA hE H locs ls hL hP hD hS
  exact lv_dup hA.1 hA.2.1 hd hva (k hA hE H locs ls hL hP hD hS)
theorem ag_pop {va : Value} (hd : decode cc pc = .ok (.pop, 1)) (hva : va.category = 1) (k : AG Γ l R A D tys cc own nL ret Qc mc ms E z (pc + 1) L st ws cells slots) : AG Γ l R A D tys cc own nL ret Qc mc ms E z pc L (va :: st) ws cells slots := by
  obtain ⟨p, e, s, m, args, below, meth, c⟩ := Γ
  intro hA hE H locs ls hL hP hD hS
  exact lv_pop hA.1 hA.2.1 hd hva (k hA hE H locs ls hL hP hD hS)
theorem ag_dup2 {va vb : Value} (hd : decode cc pc = .ok (.dup2, 1)) (hva : va.category = 1) (hvb : vb.category = 1) (k : AG Γ l R A D tys cc own nL ret Qc mc ms E z (pc + 1) L (va :: vb :: va :: vb :: st) ws cells slots) : AG Γ l R A D tys cc own nL ret Qc mc ms E z pc L (va :: vb :: st) ws cells slots := by
  obtain ⟨p, e, s, m, args, below, meth, c⟩ := Γ
  intro hA hE H locs ls hL hP hD hS
  exact lv_dup2_11 hA.1 hA.2.1 hd hva hvb (k hA hE H locs ls hL hP hD hS)
theorem ag_goto {off : Int} {tgt : Nat} (hd : decode cc pc = .ok (.goto off, 3)) (ht : (pc : Int) + off = (tgt : Int)) (k : AG Γ l R A D tys cc own nL ret Qc mc ms E z tgt L st ws cells slots) : AG Γ l R A D tys cc own nL ret Qc mc ms E z pc L st ws cells slots := by
  obtain ⟨p, e, s, m, args, below, meth, c⟩ := Γ
  intro hA hE H locs ls hL hP hD hS
  exact lv_goto hA.1 hA.2.1 hd ht (k hA hE H locs ls hL hP hD hS)
theorem ite_t {α : Type} {c : Prop} [Decidable c] {a b z : α} (h : (if c then a else b) = z) (hc : c) : a = z := by rw [if_pos hc] at h; exact h
theorem ite_f {α : Type} {c : Prop} [Decidable c] {a b z : α} (h : (if c then a else b) = z) (hc : ¬ c) : b = z := by rw [if_neg hc] at h; exact h
theorem chk_b {α : Type} {b : Prop} [Decidable b] {E : Option α} {z : α} (h : chk b E = some z) : b ∧ E = some z := by
  unfold chk at h
  by_cases hb : b
  · rw [if_pos hb] at h; exact ⟨hb, h⟩
  · rw [if_neg hb] at h; cases h
theorem bnd_s {α β : Type} {E : Option α} {K : α → Option β} {z : β} (h : bnd E K = some z) : ∃ x, E = some x ∧ K x = some z := by
  cases E with
  | none => cases h
  | some x => exact ⟨x, rfl, h⟩
theorem ag_if_eq {x : Int32} {off : Int} {tgt : Nat} [Decidable (x = 0)] {E1 E2 : ρ} (hd : decode cc pc = .ok (.ifCond .eq off, 3)) (ht : (pc : Int) + off = (tgt : Int)) (kt : x = 0 → AG Γ l R A D tys cc own nL ret Qc mc ms E1 z tgt L st ws cells slots) (kf : ¬ (x = 0) → AG Γ l R A D tys cc own nL ret Qc mc ms E2 z (pc + 3) L st ws cells slots) : AG Γ l R A D tys cc own nL ret Qc mc ms (if x = 0 then E1 else E2) z pc L (.int x :: st) ws cells slots := by
  obtain ⟨p, e, s, m, args, below, meth, c⟩ := Γ
  intro hA hE H locs ls hL hP hD hS
  exact lv_if_eq hA.1 hA.2.1 hd ht (fun h => kt h hA (ite_t hE h) H locs ls hL hP hD hS) (fun h => kf (by first | exact h | exact Classical.not_not.mp h) hA (ite_f hE (by first | exact h | exact Classical.not_not.mp h)) H locs ls hL hP hD hS)
theorem ag_if_eq_v {x : Int32} {off : Int} {tgt : Nat} [Decidable (x = 0)] {α : Type} {v1 v2 : α} {F : α → ρ} (hd : decode cc pc = .ok (.ifCond .eq off, 3)) (ht : (pc : Int) + off = (tgt : Int)) (kt : x = 0 → AG Γ l R A D tys cc own nL ret Qc mc ms (lt v1 F) z tgt L st ws cells slots) (kf : ¬ (x = 0) → AG Γ l R A D tys cc own nL ret Qc mc ms (lt v2 F) z (pc + 3) L st ws cells slots) : AG Γ l R A D tys cc own nL ret Qc mc ms (lt (if x = 0 then v1 else v2) F) z pc L (.int x :: st) ws cells slots := by
  obtain ⟨p, e, s, m, args, below, meth, c⟩ := Γ
  intro hA hE H locs ls hL hP hD hS
  exact lv_if_eq hA.1 hA.2.1 hd ht (fun h => kt h hA (by rw [if_pos h] at hE; exact hE) H locs ls hL hP hD hS) (fun h => kf (by first | exact h | exact Classical.not_not.mp h) hA (by rw [if_neg (by first | exact h | exact Classical.not_not.mp h)] at hE; exact hE) H locs ls hL hP hD hS)
theorem ag_icmp_eq {x y : Int32} {off : Int} {tgt : Nat} [Decidable (x = y)] {E1 E2 : ρ} (hd : decode cc pc = .ok (.if_icmp .eq off, 3)) (ht : (pc : Int) + off = (tgt : Int)) (kt : x = y → AG Γ l R A D tys cc own nL ret Qc mc ms E1 z tgt L st ws cells slots) (kf : ¬ (x = y) → AG Γ l R A D tys cc own nL ret Qc mc ms E2 z (pc + 3) L st ws cells slots) : AG Γ l R A D tys cc own nL ret Qc mc ms (if x = y then E1 else E2) z pc L (.int y :: .int x :: st) ws cells slots := by
  obtain ⟨p, e, s, m, args, below, meth, c⟩ := Γ
  intro hA hE H locs ls hL hP hD hS
  exact lv_icmp_eq hA.1 hA.2.1 hd ht (fun h => kt h hA (ite_t hE h) H locs ls hL hP hD hS) (fun h => kf (by first | exact h | exact Classical.not_not.mp h) hA (ite_f hE (by first | exact h | exact Classical.not_not.mp h)) H locs ls hL hP hD hS)
theorem ag_icmp_eq_v {x y : Int32} {off : Int} {tgt : Nat} [Decidable (x = y)] {α : Type} {v1 v2 : α} {F : α → ρ} (hd : decode cc pc = .ok (.if_icmp .eq off, 3)) (ht : (pc : Int) + off = (tgt : Int)) (kt : x = y → AG Γ l R A D tys cc own nL ret Qc mc ms (lt v1 F) z tgt L st ws cells slots) (kf : ¬ (x = y) → AG Γ l R A D tys cc own nL ret Qc mc ms (lt v2 F) z (pc + 3) L st ws cells slots) : AG Γ l R A D tys cc own nL ret Qc mc ms (lt (if x = y then v1 else v2) F) z pc L (.int y :: .int x :: st) ws cells slots := by
  obtain ⟨p, e, s, m, args, below, meth, c⟩ := Γ
  intro hA hE H locs ls hL hP hD hS
  exact lv_icmp_eq hA.1 hA.2.1 hd ht (fun h => kt h hA (by rw [if_pos h] at hE; exact hE) H locs ls hL hP hD hS) (fun h => kf (by first | exact h | exact Classical.not_not.mp h) hA (by rw [if_neg (by first | exact h | exact Classical.not_not.mp h)] at hE; exact hE) H locs ls hL hP hD hS)
theorem ag_if_ne {x : Int32} {off : Int} {tgt : Nat} [Decidable (x = 0)] {E1 E2 : ρ} (hd : decode cc pc = .ok (.ifCond .ne off, 3)) (ht : (pc : Int) + off = (tgt : Int)) (kt : ¬ (x = 0) → AG Γ l R A D tys cc own nL ret Qc mc ms E2 z tgt L st ws cells slots) (kf : x = 0 → AG Γ l R A D tys cc own nL ret Qc mc ms E1 z (pc + 3) L st ws cells slots) : AG Γ l R A D tys cc own nL ret Qc mc ms (if x = 0 then E1 else E2) z pc L (.int x :: st) ws cells slots := by
  obtain ⟨p, e, s, m, args, below, meth, c⟩ := Γ
  intro hA hE H locs ls hL hP hD hS
  exact lv_if_ne hA.1 hA.2.1 hd ht (fun h => kt h hA (ite_f hE h) H locs ls hL hP hD hS) (fun h => kf (by first | exact h | exact Classical.not_not.mp h) hA (ite_t hE (by first | exact h | exact Classical.not_not.mp h)) H locs ls hL hP hD hS)
theorem ag_if_ne_v {x : Int32} {off : Int} {tgt : Nat} [Decidable (x = 0)] {α : Type} {v1 v2 : α} {F : α → ρ} (hd : decode cc pc = .ok (.ifCond .ne off, 3)) (ht : (pc : Int) + off = (tgt : Int)) (kt : ¬ (x = 0) → AG Γ l R A D tys cc own nL ret Qc mc ms (lt v2 F) z tgt L st ws cells slots) (kf : x = 0 → AG Γ l R A D tys cc own nL ret Qc mc ms (lt v1 F) z (pc + 3) L st ws cells slots) : AG Γ l R A D tys cc own nL ret Qc mc ms (lt (if x = 0 then v1 else v2) F) z pc L (.int x :: st) ws cells slots := by
  obtain ⟨p, e, s, m, args, below, meth, c⟩ := Γ
  intro hA hE H locs ls hL hP hD hS
  exact lv_if_ne hA.1 hA.2.1 hd ht (fun h => kt h hA (by rw [if_neg h] at hE; exact hE) H locs ls hL hP hD hS) (fun h => kf (by first | exact h | exact Classical.not_not.mp h) hA (by rw [if_pos (by first | exact h | exact Classical.not_not.mp h)] at hE; exact hE) H locs ls hL hP hD hS)
theorem ag_icmp_ne {x y : Int32} {off : Int} {tgt : Nat} [Decidable (x = y)] {E1 E2 : ρ} (hd : decode cc pc = .ok (.if_icmp .ne off, 3)) (ht : (pc : Int) + off = (tgt : Int)) (kt : ¬ (x = y) → AG Γ l R A D tys cc own nL ret Qc mc ms E2 z tgt L st ws cells slots) (kf : x = y → AG Γ l R A D tys cc own nL ret Qc mc ms E1 z (pc + 3) L st ws cells slots) : AG Γ l R A D tys cc own nL ret Qc mc ms (if x = y then E1 else E2) z pc L (.int y :: .int x :: st) ws cells slots := by
  obtain ⟨p, e, s, m, args, below, meth, c⟩ := Γ
  intro hA hE H locs ls hL hP hD hS
  exact lv_icmp_ne hA.1 hA.2.1 hd ht (fun h => kt h hA (ite_f hE h) H locs ls hL hP hD hS) (fun h => kf (by first | exact h | exact Classical.not_not.mp h) hA (ite_t hE (by first | exact h | exact Classical.not_not.mp h)) H locs ls hL hP hD hS)
theorem ag_icmp_ne_v {x y : Int32} {off : Int} {tgt : Nat} [Decidable (x = y)] {α : Type} {v1 v2 : α} {F : α → ρ} (hd : decode cc pc = .ok (.if_icmp .ne off, 3)) (ht : (pc : Int) + off = (tgt : Int)) (kt : ¬ (x = y) → AG Γ l R A D tys cc own nL ret Qc mc ms (lt v2 F) z tgt L st ws cells slots) (kf : x = y → AG Γ l R A D tys cc own nL ret Qc mc ms (lt v1 F) z (pc + 3) L st ws cells slots) : AG Γ l R A D tys cc own nL ret Qc mc ms (lt (if x = y then v1 else v2) F) z pc L (.int y :: .int x :: st) ws cells slots := by
  obtain ⟨p, e, s, m, args, below, meth, c⟩ := Γ
  intro hA hE H locs ls hL hP hD hS
  exact lv_icmp_ne hA.1 hA.2.1 hd ht (fun h => kt h hA (by rw [if_neg h] at hE; exact hE) H locs ls hL hP hD hS) (fun h => kf (by first | exact h | exact Classical.not_not.mp h) hA (by rw [if_pos (by first | exact h | exact Classical.not_not.mp h)] at hE; exact hE) H locs ls hL hP hD hS)
theorem ag_if_lt {x : Int32} {off : Int} {tgt : Nat} [Decidable (x < 0)] {E1 E2 : ρ} (hd : decode cc pc = .ok (.ifCond .lt off, 3)) (ht : (pc : Int) + off = (tgt : Int)) (kt : x < 0 → AG Γ l R A D tys cc own nL ret Qc mc ms E1 z tgt L st ws cells slots) (kf : ¬ (x < 0) → AG Γ l R A D tys cc own nL ret Qc mc ms E2 z (pc + 3) L st ws cells slots) : AG Γ l R A D tys cc own nL ret Qc mc ms (if x < 0 then E1 else E2) z pc L (.int x :: st) ws cells slots := by
  obtain ⟨p, e, s, m, args, below, meth, c⟩ := Γ
  intro hA hE H locs ls hL hP hD hS
  exact lv_if_lt hA.1 hA.2.1 hd ht (fun h => kt h hA (ite_t hE h) H locs ls hL hP hD hS) (fun h => kf (by first | exact h | exact Classical.not_not.mp h) hA (ite_f hE (by first | exact h | exact Classical.not_not.mp h)) H locs ls hL hP hD hS)
theorem ag_if_lt_v {x : Int32} {off : Int} {tgt : Nat} [Decidable (x < 0)] {α : Type} {v1 v2 : α} {F : α → ρ} (hd : decode cc pc = .ok (.ifCond .lt off, 3)) (ht : (pc : Int) + off = (tgt : Int)) (kt : x < 0 → AG Γ l R A D tys cc own nL ret Qc mc ms (lt v1 F) z tgt L st ws cells slots) (kf : ¬ (x < 0) → AG Γ l R A D tys cc own nL ret Qc mc ms (lt v2 F) z (pc + 3) L st ws cells slots) : AG Γ l R A D tys cc own nL ret Qc mc ms (lt (if x < 0 then v1 else v2) F) z pc L (.int x :: st) ws cells slots := by
  obtain ⟨p, e, s, m, args, below, meth, c⟩ := Γ
  intro hA hE H locs ls hL hP hD hS
  exact lv_if_lt hA.1 hA.2.1 hd ht (fun h => kt h hA (by rw [if_pos h] at hE; exact hE) H locs ls hL hP hD hS) (fun h => kf (by first | exact h | exact Classical.not_not.mp h) hA (by rw [if_neg (by first | exact h | exact Classical.not_not.mp h)] at hE; exact hE) H locs ls hL hP hD hS)
theorem ag_icmp_lt {x y : Int32} {off : Int} {tgt : Nat} [Decidable (x < y)] {E1 E2 : ρ} (hd : decode cc pc = .ok (.if_icmp .lt off, 3)) (ht : (pc : Int) + off = (tgt : Int)) (kt : x < y → AG Γ l R A D tys cc own nL ret Qc mc ms E1 z tgt L st ws cells slots) (kf : ¬ (x < y) → AG Γ l R A D tys cc own nL ret Qc mc ms E2 z (pc + 3) L st ws cells slots) : AG Γ l R A D tys cc own nL ret Qc mc ms (if x < y then E1 else E2) z pc L (.int y :: .int x :: st) ws cells slots := by
  obtain ⟨p, e, s, m, args, below, meth, c⟩ := Γ
  intro hA hE H locs ls hL hP hD hS
  exact lv_icmp_lt hA.1 hA.2.1 hd ht (fun h => kt h hA (ite_t hE h) H locs ls hL hP hD hS) (fun h => kf (by first | exact h | exact Classical.not_not.mp h) hA (ite_f hE (by first | exact h | exact Classical.not_not.mp h)) H locs ls hL hP hD hS)
theorem ag_icmp_lt_v {x y : Int32} {off : Int} {tgt : Nat} [Decidable (x < y)] {α : Type} {v1 v2 : α} {F : α → ρ} (hd : decode cc pc = .ok (.if_icmp .lt off, 3)) (ht : (pc : Int) + off = (tgt : Int)) (kt : x < y → AG Γ l R A D tys cc own nL ret Qc mc ms (lt v1 F) z tgt L st ws cells slots) (kf : ¬ (x < y) → AG Γ l R A D tys cc own nL ret Qc mc ms (lt v2 F) z (pc + 3) L st ws cells slots) : AG Γ l R A D tys cc own nL ret Qc mc ms (lt (if x < y then v1 else v2) F) z pc L (.int y :: .int x :: st) ws cells slots := by
  obtain ⟨p, e, s, m, args, below, meth, c⟩ := Γ
  intro hA hE H locs ls hL hP hD hS
  exact lv_icmp_lt hA.1 hA.2.1 hd ht (fun h => kt h hA (by rw [if_pos h] at hE; exact hE) H locs ls hL hP hD hS) (fun h => kf (by first | exact h | exact Classical.not_not.mp h) hA (by rw [if_neg (by first | exact h | exact Classical.not_not.mp h)] at hE; exact hE) H locs ls hL hP hD hS)
theorem ag_if_ge {x : Int32} {off : Int} {tgt : Nat} [Decidable (0 ≤ x)] {E1 E2 : ρ} (hd : decode cc pc = .ok (.ifCond .ge off, 3)) (ht : (pc : Int) + off = (tgt : Int)) (kt : 0 ≤ x → AG Γ l R A D tys cc own nL ret Qc mc ms E1 z tgt L st ws cells slots) (kf : ¬ (0 ≤ x) → AG Γ l R A D tys cc own nL ret Qc mc ms E2 z (pc + 3) L st ws cells slots) : AG Γ l R A D tys cc own nL ret Qc mc ms (if 0 ≤ x then E1 else E2) z pc L (.int x :: st) ws cells slots := by
  obtain ⟨p, e, s, m, args, below, meth, c⟩ := Γ
  intro hA hE H locs ls hL hP hD hS
  exact lv_if_ge hA.1 hA.2.1 hd ht (fun h => kt h hA (ite_t hE h) H locs ls hL hP hD hS) (fun h => kf (by first | exact h | exact Classical.not_not.mp h) hA (ite_f hE (by first | exact h | exact Classical.not_not.mp h)) H locs ls hL hP hD hS)
theorem ag_if_ge_v {x : Int32} {off : Int} {tgt : Nat} [Decidable (0 ≤ x)] {α : Type} {v1 v2 : α} {F : α → ρ} (hd : decode cc pc = .ok (.ifCond .ge off, 3)) (ht : (pc : Int) + off = (tgt : Int)) (kt : 0 ≤ x → AG Γ l R A D tys cc own nL ret Qc mc ms (lt v1 F) z tgt L st ws cells slots) (kf : ¬ (0 ≤ x) → AG Γ l R A D tys cc own nL ret Qc mc ms (lt v2 F) z (pc + 3) L st ws cells slots) : AG Γ l R A D tys cc own nL ret Qc mc ms (lt (if 0 ≤ x then v1 else v2) F) z pc L (.int x :: st) ws cells slots := by
  obtain ⟨p, e, s, m, args, below, meth, c⟩ := Γ
  intro hA hE H locs ls hL hP hD hS
  exact lv_if_ge hA.1 hA.2.1 hd ht (fun h => kt h hA (by rw [if_pos h] at hE; exact hE) H locs ls hL hP hD hS) (fun h => kf (by first | exact h | exact Classical.not_not.mp h) hA (by rw [if_neg (by first | exact h | exact Classical.not_not.mp h)] at hE; exact hE) H locs ls hL hP hD hS)
theorem ag_icmp_ge {x y : Int32} {off : Int} {tgt : Nat} [Decidable (y ≤ x)] {E1 E2 : ρ} (hd : decode cc pc = .ok (.if_icmp .ge off, 3)) (ht : (pc : Int) + off = (tgt : Int)) (kt : y ≤ x → AG Γ l R A D tys cc own nL ret Qc mc ms E1 z tgt L st ws cells slots) (kf : ¬ (y ≤ x) → AG Γ l R A D tys cc own nL ret Qc mc ms E2 z (pc + 3) L st ws cells slots) : AG Γ l R A D tys cc own nL ret Qc mc ms (if y ≤ x then E1 else E2) z pc L (.int y :: .int x :: st) ws cells slots := by
  obtain ⟨p, e, s, m, args, below, meth, c⟩ := Γ
  intro hA hE H locs ls hL hP hD hS
  exact lv_icmp_ge hA.1 hA.2.1 hd ht (fun h => kt h hA (ite_t hE h) H locs ls hL hP hD hS) (fun h => kf (by first | exact h | exact Classical.not_not.mp h) hA (ite_f hE (by first | exact h | exact Classical.not_not.mp h)) H locs ls hL hP hD hS)
theorem ag_icmp_ge_v {x y : Int32} {off : Int} {tgt : Nat} [Decidable (y ≤ x)] {α : Type} {v1 v2 : α} {F : α → ρ} (hd : decode cc pc = .ok (.if_icmp .ge off, 3)) (ht : (pc : Int) + off = (tgt : Int)) (kt : y ≤ x → AG Γ l R A D tys cc own nL ret Qc mc ms (lt v1 F) z tgt L st ws cells slots) (kf : ¬ (y ≤ x) → AG Γ l R A D tys cc own nL ret Qc mc ms (lt v2 F) z (pc + 3) L st ws cells slots) : AG Γ l R A D tys cc own nL ret Qc mc ms (lt (if y ≤ x then v1 else v2) F) z pc L (.int y :: .int x :: st) ws cells slots := by
  obtain ⟨p, e, s, m, args, below, meth, c⟩ := Γ
  intro hA hE H locs ls hL hP hD hS
  exact lv_icmp_ge hA.1 hA.2.1 hd ht (fun h => kt h hA (by rw [if_pos h] at hE; exact hE) H locs ls hL hP hD hS) (fun h => kf (by first | exact h | exact Classical.not_not.mp h) hA (by rw [if_neg (by first | exact h | exact Classical.not_not.mp h)] at hE; exact hE) H locs ls hL hP hD hS)
theorem ag_if_gt {x : Int32} {off : Int} {tgt : Nat} [Decidable (0 < x)] {E1 E2 : ρ} (hd : decode cc pc = .ok (.ifCond .gt off, 3)) (ht : (pc : Int) + off = (tgt : Int)) (kt : 0 < x → AG Γ l R A D tys cc own nL ret Qc mc ms E1 z tgt L st ws cells slots) (kf : ¬ (0 < x) → AG Γ l R A D tys cc own nL ret Qc mc ms E2 z (pc + 3) L st ws cells slots) : AG Γ l R A D tys cc own nL ret Qc mc ms (if 0 < x then E1 else E2) z pc L (.int x :: st) ws cells slots := by
  obtain ⟨p, e, s, m, args, below, meth, c⟩ := Γ
  intro hA hE H locs ls hL hP hD hS
  exact lv_if_gt hA.1 hA.2.1 hd ht (fun h => kt h hA (ite_t hE h) H locs ls hL hP hD hS) (fun h => kf (by first | exact h | exact Classical.not_not.mp h) hA (ite_f hE (by first | exact h | exact Classical.not_not.mp h)) H locs ls hL hP hD hS)
theorem ag_if_gt_v {x : Int32} {off : Int} {tgt : Nat} [Decidable (0 < x)] {α : Type} {v1 v2 : α} {F : α → ρ} (hd : decode cc pc = .ok (.ifCond .gt off, 3)) (ht : (pc : Int) + off = (tgt : Int)) (kt : 0 < x → AG Γ l R A D tys cc own nL ret Qc mc ms (lt v1 F) z tgt L st ws cells slots) (kf : ¬ (0 < x) → AG Γ l R A D tys cc own nL ret Qc mc ms (lt v2 F) z (pc + 3) L st ws cells slots) : AG Γ l R A D tys cc own nL ret Qc mc ms (lt (if 0 < x then v1 else v2) F) z pc L (.int x :: st) ws cells slots := by
  obtain ⟨p, e, s, m, args, below, meth, c⟩ := Γ
  intro hA hE H locs ls hL hP hD hS
  exact lv_if_gt hA.1 hA.2.1 hd ht (fun h => kt h hA (by rw [if_pos h] at hE; exact hE) H locs ls hL hP hD hS) (fun h => kf (by first | exact h | exact Classical.not_not.mp h) hA (by rw [if_neg (by first | exact h | exact Classical.not_not.mp h)] at hE; exact hE) H locs ls hL hP hD hS)
theorem ag_icmp_gt {x y : Int32} {off : Int} {tgt : Nat} [Decidable (y < x)] {E1 E2 : ρ} (hd : decode cc pc = .ok (.if_icmp .gt off, 3)) (ht : (pc : Int) + off = (tgt : Int)) (kt : y < x → AG Γ l R A D tys cc own nL ret Qc mc ms E1 z tgt L st ws cells slots) (kf : ¬ (y < x) → AG Γ l R A D tys cc own nL ret Qc mc ms E2 z (pc + 3) L st ws cells slots) : AG Γ l R A D tys cc own nL ret Qc mc ms (if y < x then E1 else E2) z pc L (.int y :: .int x :: st) ws cells slots := by
  obtain ⟨p, e, s, m, args, below, meth, c⟩ := Γ
  intro hA hE H locs ls hL hP hD hS
  exact lv_icmp_gt hA.1 hA.2.1 hd ht (fun h => kt h hA (ite_t hE h) H locs ls hL hP hD hS) (fun h => kf (by first | exact h | exact Classical.not_not.mp h) hA (ite_f hE (by first | exact h | exact Classical.not_not.mp h)) H locs ls hL hP hD hS)
theorem ag_icmp_gt_v {x y : Int32} {off : Int} {tgt : Nat} [Decidable (y < x)] {α : Type} {v1 v2 : α} {F : α → ρ} (hd : decode cc pc = .ok (.if_icmp .gt off, 3)) (ht : (pc : Int) + off = (tgt : Int)) (kt : y < x → AG Γ l R A D tys cc own nL ret Qc mc ms (lt v1 F) z tgt L st ws cells slots) (kf : ¬ (y < x) → AG Γ l R A D tys cc own nL ret Qc mc ms (lt v2 F) z (pc + 3) L st ws cells slots) : AG Γ l R A D tys cc own nL ret Qc mc ms (lt (if y < x then v1 else v2) F) z pc L (.int y :: .int x :: st) ws cells slots := by
  obtain ⟨p, e, s, m, args, below, meth, c⟩ := Γ
  intro hA hE H locs ls hL hP hD hS
  exact lv_icmp_gt hA.1 hA.2.1 hd ht (fun h => kt h hA (by rw [if_pos h] at hE; exact hE) H locs ls hL hP hD hS) (fun h => kf (by first | exact h | exact Classical.not_not.mp h) hA (by rw [if_neg (by first | exact h | exact Classical.not_not.mp h)] at hE; exact hE) H locs ls hL hP hD hS)
theorem ag_if_le {x : Int32} {off : Int} {tgt : Nat} [Decidable (x ≤ 0)] {E1 E2 : ρ} (hd : decode cc pc = .ok (.ifCond .le off, 3)) (ht : (pc : Int) + off = (tgt : Int)) (kt : x ≤ 0 → AG Γ l R A D tys cc own nL ret Qc mc ms E1 z tgt L st ws cells slots) (kf : ¬ (x ≤ 0) → AG Γ l R A D tys cc own nL ret Qc mc ms E2 z (pc + 3) L st ws cells slots) : AG Γ l R A D tys cc own nL ret Qc mc ms (if x ≤ 0 then E1 else E2) z pc L (.int x :: st) ws cells slots := by
  obtain ⟨p, e, s, m, args, below, meth, c⟩ := Γ
  intro hA hE H locs ls hL hP hD hS
  exact lv_if_le hA.1 hA.2.1 hd ht (fun h => kt h hA (ite_t hE h) H locs ls hL hP hD hS) (fun h => kf (by first | exact h | exact Classical.not_not.mp h) hA (ite_f hE (by first | exact h | exact Classical.not_not.mp h)) H locs ls hL hP hD hS)
theorem ag_if_le_v {x : Int32} {off : Int} {tgt : Nat} [Decidable (x ≤ 0)] {α : Type} {v1 v2 : α} {F : α → ρ} (hd : decode cc pc = .ok (.ifCond .le off, 3)) (ht : (pc : Int) + off = (tgt : Int)) (kt : x ≤ 0 → AG Γ l R A D tys cc own nL ret Qc mc ms (lt v1 F) z tgt L st ws cells slots) (kf : ¬ (x ≤ 0) → AG Γ l R A D tys cc own nL ret Qc mc ms (lt v2 F) z (pc + 3) L st ws cells slots) : AG Γ l R A D tys cc own nL ret Qc mc ms (lt (if x ≤ 0 then v1 else v2) F) z pc L (.int x :: st) ws cells slots := by
  obtain ⟨p, e, s, m, args, below, meth, c⟩ := Γ
  intro hA hE H locs ls hL hP hD hS
  exact lv_if_le hA.1 hA.2.1 hd ht (fun h => kt h hA (by rw [if_pos h] at hE; exact hE) H locs ls hL hP hD hS) (fun h => kf (by first | exact h | exact Classical.not_not.mp h) hA (by rw [if_neg (by first | exact h | exact Classical.not_not.mp h)] at hE; exact hE) H locs ls hL hP hD hS)
theorem ag_icmp_le {x y : Int32} {off : Int} {tgt : Nat} [Decidable (x ≤ y)] {E1 E2 : ρ} (hd : decode cc pc = .ok (.if_icmp .le off, 3)) (ht : (pc : Int) + off = (tgt : Int)) (kt : x ≤ y → AG Γ l R A D tys cc own nL ret Qc mc ms E1 z tgt L st ws cells slots) (kf : ¬ (x ≤ y) → AG Γ l R A D tys cc own nL ret Qc mc ms E2 z (pc + 3) L st ws cells slots) : AG Γ l R A D tys cc own nL ret Qc mc ms (if x ≤ y then E1 else E2) z pc L (.int y :: .int x :: st) ws cells slots := by
  obtain ⟨p, e, s, m, args, below, meth, c⟩ := Γ
  intro hA hE H locs ls hL hP hD hS
  exact lv_icmp_le hA.1 hA.2.1 hd ht (fun h => kt h hA (ite_t hE h) H locs ls hL hP hD hS) (fun h => kf (by first | exact h | exact Classical.not_not.mp h) hA (ite_f hE (by first | exact h | exact Classical.not_not.mp h)) H locs ls hL hP hD hS)
theorem ag_icmp_le_v {x y : Int32} {off : Int} {tgt : Nat} [Decidable (x ≤ y)] {α : Type} {v1 v2 : α} {F : α → ρ} (hd : decode cc pc = .ok (.if_icmp .le off, 3)) (ht : (pc : Int) + off = (tgt : Int)) (kt : x ≤ y → AG Γ l R A D tys cc own nL ret Qc mc ms (lt v1 F) z tgt L st ws cells slots) (kf : ¬ (x ≤ y) → AG Γ l R A D tys cc own nL ret Qc mc ms (lt v2 F) z (pc + 3) L st ws cells slots) : AG Γ l R A D tys cc own nL ret Qc mc ms (lt (if x ≤ y then v1 else v2) F) z pc L (.int y :: .int x :: st) ws cells slots := by
  obtain ⟨p, e, s, m, args, below, meth, c⟩ := Γ
  intro hA hE H locs ls hL hP hD hS
  exact lv_icmp_le hA.1 hA.2.1 hd ht (fun h => kt h hA (by rw [if_pos h] at hE; exact hE) H locs ls hL hP hD hS) (fun h => kf (by first | exact h | exact Classical.not_not.mp h) hA (by rw [if_neg (by first | exact h | exact Classical.not_not.mp h)] at hE; exact hE) H locs ls hL hP hD hS)
theorem b2i_eq0 {b : Bool} : b2i b = 0 ↔ ¬ b = true := by cases b <;> decide
theorem b2i_ne0 {b : Bool} : (¬ b2i b = 0) ↔ b = true := by cases b <;> decide
theorem b2i_and (a b : Bool) : b2i a &&& b2i b = b2i (a && b) := by cases a <;> cases b <;> decide
theorem b2i_or (a b : Bool) : b2i a ||| b2i b = b2i (a || b) := by cases a <;> cases b <;> decide
theorem b2i_nar (b : Bool) : narrow .boolean (.int (b2i b)) = .int (b2i b) := by cases b <;> decide
theorem b2i_fit (b : Bool) : fits .boolean (.int (b2i b)) = true := by cases b <;> decide
theorem b2i_vp (b : Bool) : vp_nar .boolean (b2i b) = b2i b := by cases b <;> decide
theorem i2b_b2i (b : Bool) : i2b (b2i b) = b := by cases b <;> decide
theorem ag_bif_eq {b : Bool} {off : Int} {tgt : Nat} {E1 E2 : ρ} (hd : decode cc pc = .ok (.ifCond .eq off, 3)) (ht : (pc : Int) + off = (tgt : Int)) (kt : ¬ b = true → AG Γ l R A D tys cc own nL ret Qc mc ms E2 z tgt L st ws cells slots) (kf : b = true → AG Γ l R A D tys cc own nL ret Qc mc ms E1 z (pc + 3) L st ws cells slots) : AG Γ l R A D tys cc own nL ret Qc mc ms (if b = true then E1 else E2) z pc L (.int (b2i b) :: st) ws cells slots := by
  obtain ⟨p, e, s, m, args, below, meth, c⟩ := Γ
  intro hA hE H locs ls hL hP hD hS
  exact lv_if_eq hA.1 hA.2.1 hd ht (fun h => kt (b2i_eq0.mp h) hA (ite_f hE (b2i_eq0.mp h)) H locs ls hL hP hD hS) (fun h => kf (b2i_ne0.mp h) hA (ite_t hE (b2i_ne0.mp h)) H locs ls hL hP hD hS)
theorem ag_bif_eq_v {b : Bool} {off : Int} {tgt : Nat} {α : Type} {v1 v2 : α} {F : α → ρ} (hd : decode cc pc = .ok (.ifCond .eq off, 3)) (ht : (pc : Int) + off = (tgt : Int)) (kt : ¬ b = true → AG Γ l R A D tys cc own nL ret Qc mc ms (lt v2 F) z tgt L st ws cells slots) (kf : b = true → AG Γ l R A D tys cc own nL ret Qc mc ms (lt v1 F) z (pc + 3) L st ws cells slots) : AG Γ l R A D tys cc own nL ret Qc mc ms (lt (if b = true then v1 else v2) F) z pc L (.int (b2i b) :: st) ws cells slots := by
  obtain ⟨p, e, s, m, args, below, meth, c⟩ := Γ
  intro hA hE H locs ls hL hP hD hS
  exact lv_if_eq hA.1 hA.2.1 hd ht (fun h => kt (b2i_eq0.mp h) hA (by rw [if_neg (b2i_eq0.mp h)] at hE; exact hE) H locs ls hL hP hD hS) (fun h => kf (b2i_ne0.mp h) hA (by rw [if_pos (b2i_ne0.mp h)] at hE; exact hE) H locs ls hL hP hD hS)
theorem ag_bif_ne {b : Bool} {off : Int} {tgt : Nat} {E1 E2 : ρ} (hd : decode cc pc = .ok (.ifCond .ne off, 3)) (ht : (pc : Int) + off = (tgt : Int)) (kt : b = true → AG Γ l R A D tys cc own nL ret Qc mc ms E1 z tgt L st ws cells slots) (kf : ¬ b = true → AG Γ l R A D tys cc own nL ret Qc mc ms E2 z (pc + 3) L st ws cells slots) : AG Γ l R A D tys cc own nL ret Qc mc ms (if b = true then E1 else E2) z pc L (.int (b2i b) :: st) ws cells slots := by
  obtain ⟨p, e, s, m, args, below, meth, c⟩ := Γ
  intro hA hE H locs ls hL hP hD hS
  exact lv_if_ne hA.1 hA.2.1 hd ht (fun h => kt (b2i_ne0.mp h) hA (ite_t hE (b2i_ne0.mp h)) H locs ls hL hP hD hS) (fun h => kf (b2i_eq0.mp (by first | exact h | exact Classical.not_not.mp h)) hA (ite_f hE (b2i_eq0.mp (by first | exact h | exact Classical.not_not.mp h))) H locs ls hL hP hD hS)
theorem ag_bif_ne_v {b : Bool} {off : Int} {tgt : Nat} {α : Type} {v1 v2 : α} {F : α → ρ} (hd : decode cc pc = .ok (.ifCond .ne off, 3)) (ht : (pc : Int) + off = (tgt : Int)) (kt : b = true → AG Γ l R A D tys cc own nL ret Qc mc ms (lt v1 F) z tgt L st ws cells slots) (kf : ¬ b = true → AG Γ l R A D tys cc own nL ret Qc mc ms (lt v2 F) z (pc + 3) L st ws cells slots) : AG Γ l R A D tys cc own nL ret Qc mc ms (lt (if b = true then v1 else v2) F) z pc L (.int (b2i b) :: st) ws cells slots := by
  obtain ⟨p, e, s, m, args, below, meth, c⟩ := Γ
  intro hA hE H locs ls hL hP hD hS
  exact lv_if_ne hA.1 hA.2.1 hd ht (fun h => kt (b2i_ne0.mp h) hA (by rw [if_pos (b2i_ne0.mp h)] at hE; exact hE) H locs ls hL hP hD hS) (fun h => kf (b2i_eq0.mp (by first | exact h | exact Classical.not_not.mp h)) hA (by rw [if_neg (b2i_eq0.mp (by first | exact h | exact Classical.not_not.mp h))] at hE; exact hE) H locs ls hL hP hD hS)
theorem ag_ifnull {r : Option Nat} {ad : Nat → Nat} {off : Int} {tgt : Nat} {E1 : ρ} {E2 : Nat → ρ} (hd : decode cc pc = .ok (.ifnull off, 3)) (ht : (pc : Int) + off = (tgt : Int)) (kt : r = none → AG Γ l R A D tys cc own nL ret Qc mc ms E1 z tgt L st ws cells slots) (kf : ∀ a, r = some a → AG Γ l R A D tys cc own nL ret Qc mc ms (E2 a) z (pc + 3) L st ws cells slots) : AG Γ l R A D tys cc own nL ret Qc mc ms (onn r E1 E2) z pc L (va_rf (r.map ad) :: st) ws cells slots := by
  obtain ⟨p, e, s, m, args, below, meth, c⟩ := Γ
  intro hA hE H locs ls hL hP hD hS
  cases r with
  | none => exact lv_ifnullN hA.1 hA.2.1 hd ht (kt rfl hA hE H locs ls hL hP hD hS)
  | some a => exact lv_ifnull hA.1 hA.2.1 hd (kf a rfl hA hE H locs ls hL hP hD hS)
theorem ag_ifnonnull {r : Option Nat} {ad : Nat → Nat} {off : Int} {tgt : Nat} {E1 : ρ} {E2 : Nat → ρ} (hd : decode cc pc = .ok (.ifnonnull off, 3)) (ht : (pc : Int) + off = (tgt : Int)) (kt : ∀ a, r = some a → AG Γ l R A D tys cc own nL ret Qc mc ms (E2 a) z tgt L st ws cells slots) (kf : r = none → AG Γ l R A D tys cc own nL ret Qc mc ms E1 z (pc + 3) L st ws cells slots) : AG Γ l R A D tys cc own nL ret Qc mc ms (onn r E1 E2) z pc L (va_rf (r.map ad) :: st) ws cells slots := by
  obtain ⟨p, e, s, m, args, below, meth, c⟩ := Γ
  intro hA hE H locs ls hL hP hD hS
  cases r with
  | none => exact lv_ifnonnullN hA.1 hA.2.1 hd (kf rfl hA hE H locs ls hL hP hD hS)
  | some a => exact lv_ifnonnull hA.1 hA.2.1 hd ht (kt a rfl hA hE H locs ls hL hP hD hS)
theorem ag_lt {α : Type} {v : α} {F : α → ρ} (k : AG Γ l R A D tys cc own nL ret Qc mc ms (F v) z pc L st ws cells slots) : AG Γ l R A D tys cc own nL ret Qc mc ms (lt v F) z pc L st ws cells slots := k
theorem ag_ltI {v : Int32} {F : Int32 → ρ} (k : ∀ x, AG Γ l R A D tys cc own nL ret Qc mc ms (F x) z pc L (.int x :: st) ws cells slots) : AG Γ l R A D tys cc own nL ret Qc mc ms (lt v F) z pc L (.int v :: st) ws cells slots := k v
theorem ag_ltZ {v : Bool} {F : Bool → ρ} (k : ∀ x, AG Γ l R A D tys cc own nL ret Qc mc ms (F x) z pc L (.int (b2i x) :: st) ws cells slots) : AG Γ l R A D tys cc own nL ret Qc mc ms (lt v F) z pc L (.int (b2i v) :: st) ws cells slots := k v
theorem ag_ltJ {v : Int64} {F : Int64 → ρ} (k : ∀ x, AG Γ l R A D tys cc own nL ret Qc mc ms (F x) z pc L (.long x :: st) ws cells slots) : AG Γ l R A D tys cc own nL ret Qc mc ms (lt v F) z pc L (.long v :: st) ws cells slots := k v
theorem ag_ltO {ad : Nat → Nat} {v : Option Nat} {F : Option Nat → ρ} (k : ∀ x, x = v → AG Γ l R A D tys cc own nL ret Qc mc ms (F x) z pc L (va_rf (x.map ad) :: st) ws cells slots) : AG Γ l R A D tys cc own nL ret Qc mc ms (lt v F) z pc L (va_rf (v.map ad) :: st) ws cells slots := k v rfl
theorem ag_ltV {η : Type} {vw : η → va_W} {v : η} {F : η → ρ} (k : ∀ x, AG Γ l R A D tys cc own nL ret Qc mc ms (F x) z pc L st (vw x) cells slots) : AG Γ l R A D tys cc own nL ret Qc mc ms (lt v F) z pc L st (vw v) cells slots := k v
theorem ag_ltIV {η : Type} {vw : η → va_W} {v : Int32 × η} {F : Int32 × η → ρ} (k : ∀ x, AG Γ l R A D tys cc own nL ret Qc mc ms (F x) z pc L (.int x.1 :: st) (vw x.2) cells slots) : AG Γ l R A D tys cc own nL ret Qc mc ms (lt v F) z pc L (.int v.1 :: st) (vw v.2) cells slots := k v
theorem ag_ltZV {η : Type} {vw : η → va_W} {v : Bool × η} {F : Bool × η → ρ} (k : ∀ x, AG Γ l R A D tys cc own nL ret Qc mc ms (F x) z pc L (.int (b2i x.1) :: st) (vw x.2) cells slots) : AG Γ l R A D tys cc own nL ret Qc mc ms (lt v F) z pc L (.int (b2i v.1) :: st) (vw v.2) cells slots := k v
theorem ag_ltJV {η : Type} {vw : η → va_W} {v : Int64 × η} {F : Int64 × η → ρ} (k : ∀ x, AG Γ l R A D tys cc own nL ret Qc mc ms (F x) z pc L (.long x.1 :: st) (vw x.2) cells slots) : AG Γ l R A D tys cc own nL ret Qc mc ms (lt v F) z pc L (.long v.1 :: st) (vw v.2) cells slots := k v
theorem ag_none {z : ρ} : AG Γ l R A D tys cc own nL ret Qc mc ms (none : Option ρ) (some z) pc L st ws cells slots := by
  obtain ⟨p, e, s, m, args, below, meth, c⟩ := Γ
  intro hA hE H locs ls hL hP hD hS
  cases hE
theorem ag_chk {b : Prop} [Decidable b] {E : Option ρ} {z : ρ} (k : b → AG Γ l R A D tys cc own nL ret Qc mc ms E (some z) pc L st ws cells slots) : AG Γ l R A D tys cc own nL ret Qc mc ms (chk b E) (some z) pc L st ws cells slots := by
  obtain ⟨p, e, s, m, args, below, meth, c⟩ := Γ
  intro hA hE H locs ls hL hP hD hS
  exact k (chk_b hE).1 hA (chk_b hE).2 H locs ls hL hP hD hS
theorem ag_bnd {α : Type} {Ec : Option α} {K : α → Option ρ} {z : ρ} (k : ∀ x, Ec = some x → AG Γ l R A D tys cc own nL ret Qc mc ms (K x) (some z) pc L st ws cells slots) : AG Γ l R A D tys cc own nL ret Qc mc ms (bnd Ec K) (some z) pc L st ws cells slots := by
  obtain ⟨p, e, s, m, args, below, meth, c⟩ := Γ
  intro hA hE H locs ls hL hP hD hS
  obtain ⟨x, h1, h2⟩ := bnd_s hE
  exact k x h1 hA h2 H locs ls hL hP hD hS
theorem ag_if {c0 : Prop} [Decidable c0] {E1 E2 : ρ} (kt : c0 → AG Γ l R A D tys cc own nL ret Qc mc ms E1 z pc L st ws cells slots) (kf : ¬ c0 → AG Γ l R A D tys cc own nL ret Qc mc ms E2 z pc L st ws cells slots) : AG Γ l R A D tys cc own nL ret Qc mc ms (if c0 then E1 else E2) z pc L st ws cells slots := by
  obtain ⟨p, e, s, m, args, below, meth, c⟩ := Γ
  intro hA hE H locs ls hL hP hD hS
  by_cases h : c0
  · exact kt h hA (ite_t hE h) H locs ls hL hP hD hS
  · exact kf h hA (ite_f hE h) H locs ls hL hP hD hS
theorem ag_if_v {c0 : Prop} [Decidable c0] {α : Type} {v1 v2 : α} {F : α → ρ} (kt : c0 → AG Γ l R A D tys cc own nL ret Qc mc ms (lt v1 F) z pc L st ws cells slots) (kf : ¬ c0 → AG Γ l R A D tys cc own nL ret Qc mc ms (lt v2 F) z pc L st ws cells slots) : AG Γ l R A D tys cc own nL ret Qc mc ms (lt (if c0 then v1 else v2) F) z pc L st ws cells slots := by
  obtain ⟨p, e, s, m, args, below, meth, c⟩ := Γ
  intro hA hE H locs ls hL hP hD hS
  by_cases h : c0
  · exact kt h hA (by rw [if_pos h] at hE; exact hE) H locs ls hL hP hD hS
  · exact kf h hA (by rw [if_neg h] at hE; exact hE) H locs ls hL hP hD hS
theorem ag_jn0 {F : ρ} {B : ρ → ρ} {j : Nat} {L1 : List (Option Value)} {st1 : List Value} {ws1 : va_W} (hk : AG Γ l R A D tys cc own nL ret Qc mc ms F z j L1 st1 ws1 cells slots) (k : ∀ K, AG Γ l R A D tys cc own nL ret Qc mc ms K z j L1 st1 ws1 cells slots → AG Γ l R A D tys cc own nL ret Qc mc ms (B K) z pc L st ws cells slots) : AG Γ l R A D tys cc own nL ret Qc mc ms (jn F B) z pc L st ws cells slots := k F hk
theorem ag_jn1 {α : Type} {F : α → ρ} {B : (α → ρ) → ρ} {j : Nat} {L1 : α → List (Option Value)} {st1 : α → List Value} {ws1 : α → va_W} (hk : ∀ a, AG Γ l R A D tys cc own nL ret Qc mc ms (F a) z j (L1 a) (st1 a) (ws1 a) cells slots) (k : ∀ K, (∀ a, AG Γ l R A D tys cc own nL ret Qc mc ms (K a) z j (L1 a) (st1 a) (ws1 a) cells slots) → AG Γ l R A D tys cc own nL ret Qc mc ms (B K) z pc L st ws cells slots) : AG Γ l R A D tys cc own nL ret Qc mc ms (jn F B) z pc L st ws cells slots := k F hk
theorem ag_jn2 {α β : Type} {F : α → β → ρ} {B : (α → β → ρ) → ρ} {j : Nat} {L1 : α → β → List (Option Value)} {st1 : α → β → List Value} {ws1 : α → β → va_W} (hk : ∀ a b, AG Γ l R A D tys cc own nL ret Qc mc ms (F a b) z j (L1 a b) (st1 a b) (ws1 a b) cells slots) (k : ∀ K, (∀ a b, AG Γ l R A D tys cc own nL ret Qc mc ms (K a b) z j (L1 a b) (st1 a b) (ws1 a b) cells slots) → AG Γ l R A D tys cc own nL ret Qc mc ms (B K) z pc L st ws cells slots) : AG Γ l R A D tys cc own nL ret Qc mc ms (jn F B) z pc L st ws cells slots := k F hk
theorem ag_jn3 {α β γ : Type} {F : α → β → γ → ρ} {B : (α → β → γ → ρ) → ρ} {j : Nat} {L1 : α → β → γ → List (Option Value)} {st1 : α → β → γ → List Value} {ws1 : α → β → γ → va_W} (hk : ∀ a b c, AG Γ l R A D tys cc own nL ret Qc mc ms (F a b c) z j (L1 a b c) (st1 a b c) (ws1 a b c) cells slots) (k : ∀ K, (∀ a b c, AG Γ l R A D tys cc own nL ret Qc mc ms (K a b c) z j (L1 a b c) (st1 a b c) (ws1 a b c) cells slots) → AG Γ l R A D tys cc own nL ret Qc mc ms (B K) z pc L st ws cells slots) : AG Γ l R A D tys cc own nL ret Qc mc ms (jn F B) z pc L st ws cells slots := k F hk
theorem ag_dv {α : Type} {VAL : α} {F : α → ρ} {j : Nat} {L1 : α → List (Option Value)} {st1 : α → List Value} {ws1 : α → va_W} (hk : ∀ a, AG Γ l R A D tys cc own nL ret Qc mc ms (F a) z j (L1 a) (st1 a) (ws1 a) cells slots) (k : ∀ K, (∀ a, AG Γ l R A D tys cc own nL ret Qc mc ms (K a) z j (L1 a) (st1 a) (ws1 a) cells slots) → AG Γ l R A D tys cc own nL ret Qc mc ms (lt VAL K) z pc L st ws cells slots) : AG Γ l R A D tys cc own nL ret Qc mc ms (lt VAL F) z pc L st ws cells slots := k F hk
theorem ag_E {E' : ρ} (h : E = E') (k : AG Γ l R A D tys cc own nL ret Qc mc ms E' z pc L st ws cells slots) : AG Γ l R A D tys cc own nL ret Qc mc ms E z pc L st ws cells slots := h ▸ k
theorem ag_st {st' : List Value} (h : st = st') (k : AG Γ l R A D tys cc own nL ret Qc mc ms E z pc L st' ws cells slots) : AG Γ l R A D tys cc own nL ret Qc mc ms E z pc L st ws cells slots := h ▸ k
end AGS
