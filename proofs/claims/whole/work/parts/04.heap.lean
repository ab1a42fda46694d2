abbrev HV : Type := Nat → Nat → Nat → Int32
def sv (V : HV) (a b j : Nat) (x : Int32) : HV := fun a' b' j' => if a' = a ∧ b' = b ∧ j' = j then x else V a' b' j'
/-- what a method that makes nothing says: out of V it answers tv z.1 and leaves z.2 -/
def CM (l : Launch) (A : Nat → Prop) (D : va_G) (tys : List (ClassId × FieldType)) (vw : HV → va_W) (y : MethodName) (bytes : ByteArray) (maxL : Nat) (rt : Option FieldType) (rF rL : Nat) {τ : Type} (tv : τ → Option Value) (av : List Value) (V : HV) (z : τ × HV) : Prop :=
  Met l y (Cond.code y bytes maxL rt :: lw_g) { frames := rF, cells := 0, slots := 0, locals := rL } (va_Pc av (fun U => va_P D vwCl (vw V) U.heap ∧ va_K D vwCl tys U ∧ ∀ w ∈ lw_n, va_Nw w U)) (fun _ st o t => o = .returned (tv z.1) ∧ va_P D vwCl (vw z.2) t.heap ∧ va_F A st t) 0 0 A
abbrev QM (A : Nat → Prop) (D : va_G) (vw : HV → va_W) {τ : Type} (tv : τ → Option Value) (z : τ × HV) : Array Value → State → Outcome → State → Prop := fun _ st o t => o = .returned (tv z.1) ∧ va_P D vwCl (vw z.2) t.heap ∧ va_F A st t
abbrev tvI : Int32 → Option Value := fun x => some (.int x)
abbrev tvZ : Bool → Option Value := fun x => some (.int (b2i x))
abbrev tvJ : Int64 → Option Value := fun x => some (.long x)
abbrev tvV : Unit → Option Value := fun _ => none
abbrev tvR (ad : Nat → Nat) : Nat → Option Value := fun x => some (.ref (ad x))
abbrev tvO (ad : Nat → Nat) : Option Nat → Option Value := fun x => some (va_rf (x.map ad))
section AGH
variable {Γ : Cx} {l : Launch} {R : Room} {A : Nat → Prop} {D : va_G} {tys : List (ClassId × FieldType)} {cc : ByteArray} {own : String} {nL : Nat} {ret : Option FieldType} {Qc : Array Value → State → Outcome → State → Prop} {mc ms : Nat} {ρ : Type} {E z : ρ} {pc : Nat} {L : List (Option Value)} {st : List Value} {ws : va_W} {cells slots : Nat}
theorem ag_get {ref C : String} {T : u_T} {N ci index q0 k a : Nat} {fs : List Value} {v : Value} (hin : ∀ w ∈ u_ws C T N, w ∈ lw_g) (hc : vwCl[ci]? = some (C, T, N)) (hk : k < N) (href : (T k).1 = ref) (he : ws[q0]? = some (a, .inr (ci, fs))) (hv : fs[k]? = some v) (hlink : Cond.fieldLink own index ref (T k).2.1 (T k).2.2.1 ∈ lw_g) (hd : decode cc pc = .ok (.getfield index, 3)) (kk : AG Γ l R A D tys cc own nL ret Qc mc ms E z (pc + 3) L (v :: st) ws cells slots) : AG Γ l R A D tys cc own nL ret Qc mc ms E z pc L (.ref a :: st) ws cells slots := by
  obtain ⟨p, e, s, m, args, below, meth, c⟩ := Γ
  intro hA hE H locs ls hL hP hD hS
  exact va_get hA.1 hA.2.1 hA.2.2.2.2.1 hin hA.2.2.2.1 hA.2.2.2.2.2.1 hP q0 he hc k hk (hA.2.2.2.2.1 _ hlink) (fun x h => by rw [← href]; exact h) hv hd (kk hA hE H locs ls hL hP hD hS)
theorem ag_put {ref C : String} {T : u_T} {N ci index q0 k a : Nat} {fs : List Value} {v : Value} {ty : FieldType} {ty0 : Nat → FieldType} {ws' : va_W} (hin : ∀ w ∈ u_ws C T N, w ∈ lw_g) (hty : ∀ k, k < N → parseFieldDescriptor (T k).2.2.1 = some (ty0 k)) (hnm : ∀ a, a < N → ∀ b, b < N → a ≠ b → (T a).2.1 ≠ (T b).2.1) (hc : vwCl[ci]? = some (C, T, N)) (hk : k < N) (href : (T k).1 = ref) (hfin : (T k).2.2.2 = false) (htk : ty0 k = ty) (hn : narrow ty v = v) (hfit : fits ty v = true) (he : ws[q0]? = some (a, .inr (ci, fs))) (hlen : k < fs.length) (hws : ws.set q0 (a, .inr (ci, fs.set k v)) = ws') (hlink : Cond.fieldLink own index ref (T k).2.1 (T k).2.2.1 ∈ lw_g) (hd : decode cc pc = .ok (.putfield index, 3)) (kk : AG Γ l R A D tys cc own nL ret Qc mc ms E z (pc + 3) L st ws' cells slots) : AG Γ l R A D tys cc own nL ret Qc mc ms E z pc L (v :: .ref a :: st) ws cells slots := by
  obtain ⟨p, e, s, m, args, below, meth, c⟩ := Γ
  intro hA hE H locs ls hL hP hD hS
  subst hws
  exact va_put hA.1 hA.2.1 hA.2.2.2.2.1 hin ty0 hty hnm hA.2.2.2.1 hA.2.2.2.2.2.1 hP hD hS q0 he hc k hk (hA.2.2.2.2.1 _ hlink) (fun x h => by rw [← href]; exact h) hfin (by rw [← htk]; exact hty k hk) hn hfit hlen hd (fun H1 locs1 hP1 hD1 hS1 => kk hA hE H1 locs1 ls hL hP1 hD1 hS1)
theorem inb_lt {i : Int32} {n : Nat} (h : inb i n) : i.toNatClampNeg < n := Nat.not_le.mp fun q => vp_of_inb h (Or.inr q)
theorem ag_iald {q0 t0 n a : Nat} {cA : ClassId} {f : Nat → Int32} {i : Int32} (ht : tys[t0]? = some (cA, .int)) (he : ws[q0]? = some (a, .inl (cA, n, .inl f))) (hin : inb i n) (hd : decode cc pc = .ok (.iaload, 1)) (kk : AG Γ l R A D tys cc own nL ret Qc mc ms E z (pc + 1) L (.int (f i.toNatClampNeg) :: st) ws cells slots) : AG Γ l R A D tys cc own nL ret Qc mc ms E z pc L (.int i :: .ref a :: st) ws cells slots := by
  obtain ⟨p, e, s, m, args, below, meth, c⟩ := Γ
  intro hA hE H locs ls hL hP hD hS
  exact va_iald hA.1 hA.2.1 hA.2.2.2.2.2.1 hP q0 t0 he ht (vp_of_inb hin) hd (kk hA hE H locs ls hL hP hD hS)
theorem ag_bald {q0 t0 n a : Nat} {cA : ClassId} {f : Nat → Int32} {i : Int32} (ht : tys[t0]? = some (cA, .byte)) (he : ws[q0]? = some (a, .inl (cA, n, .inl f))) (hin : inb i n) (hd : decode cc pc = .ok (.baload, 1)) (kk : AG Γ l R A D tys cc own nL ret Qc mc ms E z (pc + 1) L (.int (f i.toNatClampNeg) :: st) ws cells slots) : AG Γ l R A D tys cc own nL ret Qc mc ms E z pc L (.int i :: .ref a :: st) ws cells slots := by
  obtain ⟨p, e, s, m, args, below, meth, c⟩ := Γ
  intro hA hE H locs ls hL hP hD hS
  exact va_bald hA.1 hA.2.1 hA.2.2.2.2.2.1 hP q0 t0 he ht (vp_of_inb hin) hd (kk hA hE H locs ls hL hP hD hS)
theorem ag_zald {q0 t0 n a : Nat} {cA : ClassId} {f : Nat → Int32} {i : Int32} (ht : tys[t0]? = some (cA, .boolean)) (he : ws[q0]? = some (a, .inl (cA, n, .inl f))) (hin : inb i n) (hd : decode cc pc = .ok (.baload, 1)) (kk : AG Γ l R A D tys cc own nL ret Qc mc ms E z (pc + 1) L (.int (f i.toNatClampNeg) :: st) ws cells slots) : AG Γ l R A D tys cc own nL ret Qc mc ms E z pc L (.int i :: .ref a :: st) ws cells slots := by
  obtain ⟨p, e, s, m, args, below, meth, c⟩ := Γ
  intro hA hE H locs ls hL hP hD hS
  exact va_zald hA.1 hA.2.1 hA.2.2.2.2.2.1 hP q0 t0 he ht (vp_of_inb hin) hd (kk hA hE H locs ls hL hP hD hS)
theorem ag_aald {q0 t0 n a : Nat} {cA : ClassId} {C : String} {f : Nat → Option Nat} {i : Int32} {b : Nat} (ht : tys[t0]? = some (cA, .object C)) (he : ws[q0]? = some (a, .inl (cA, n, .inr (.inr (.inr (.inr f)))))) (hin : inb i n) (hb : f i.toNatClampNeg = some b) (hd : decode cc pc = .ok (.aaload, 1)) (kk : AG Γ l R A D tys cc own nL ret Qc mc ms E z (pc + 1) L (.ref b :: st) ws cells slots) : AG Γ l R A D tys cc own nL ret Qc mc ms E z pc L (.int i :: .ref a :: st) ws cells slots := by
  obtain ⟨p, e, s, m, args, below, meth, c⟩ := Γ
  intro hA hE H locs ls hL hP hD hS
  exact va_aldq hA.1 hA.2.1 hA.2.2.2.2.2.1 hP q0 t0 he ht (vp_of_inb hin) hd (by rw [hb]; exact kk hA hE H locs ls hL hP hD hS)
theorem ag_alen {q0 t0 a : Nat} {cA : ClassId} {x : vp_A} {ty : FieldType} {v : Int32} (ht : tys[t0]? = some (cA, ty)) (he : ws[q0]? = some (a, .inl (cA, x))) (hv : Int32.ofNat x.1 = v) (hd : decode cc pc = .ok (.arraylength, 1)) (kk : AG Γ l R A D tys cc own nL ret Qc mc ms E z (pc + 1) L (.int v :: st) ws cells slots) : AG Γ l R A D tys cc own nL ret Qc mc ms E z pc L (.ref a :: st) ws cells slots := by
  obtain ⟨p, e, s, m, args, below, meth, c⟩ := Γ
  intro hA hE H locs ls hL hP hD hS
  exact va_alen hA.1 hA.2.1 hA.2.2.2.2.2.1 hP q0 t0 he ht hv hd (kk hA hE H locs ls hL hP hD hS)
theorem ag_iast {q0 t0 n a : Nat} {cA : ClassId} {f : Nat → Int32} {i x : Int32} {ws' : va_W} (ht : tys[t0]? = some (cA, .int)) (he : ws[q0]? = some (a, .inl (cA, n, .inl f))) (hin : inb i n) (hws : ws.set q0 (a, .inl (cA, n, .inl (upd f i.toNatClampNeg x))) = ws') (hd : decode cc pc = .ok (.iastore, 1)) (kk : AG Γ l R A D tys cc own nL ret Qc mc ms E z (pc + 1) L st ws' cells slots) : AG Γ l R A D tys cc own nL ret Qc mc ms E z pc L (.int x :: .int i :: .ref a :: st) ws cells slots := by
  obtain ⟨p, e, s, m, args, below, meth, c⟩ := Γ
  intro hA hE H locs ls hL hP hD hS
  subst hws
  exact va_iast hA.1 hA.2.1 hA.2.2.2.2.2.1 hP hD hS q0 t0 he ht (vp_of_inb hin) hd (fun H1 locs1 hP1 hD1 hS1 => kk hA hE H1 locs1 ls hL hP1 hD1 hS1)
theorem ag_bast {q0 t0 n a : Nat} {cA : ClassId} {f : Nat → Int32} {i x : Int32} {ws' : va_W} (ht : tys[t0]? = some (cA, .byte)) (he : ws[q0]? = some (a, .inl (cA, n, .inl f))) (hin : inb i n) (hws : ws.set q0 (a, .inl (cA, n, .inl (upd f i.toNatClampNeg (vp_nar .byte x)))) = ws') (hd : decode cc pc = .ok (.bastore, 1)) (kk : AG Γ l R A D tys cc own nL ret Qc mc ms E z (pc + 1) L st ws' cells slots) : AG Γ l R A D tys cc own nL ret Qc mc ms E z pc L (.int x :: .int i :: .ref a :: st) ws cells slots := by
  obtain ⟨p, e, s, m, args, below, meth, c⟩ := Γ
  intro hA hE H locs ls hL hP hD hS
  subst hws
  exact va_bast hA.1 hA.2.1 hA.2.2.2.2.2.1 hP hD hS q0 t0 he ht (vp_of_inb hin) hd (fun H1 locs1 hP1 hD1 hS1 => kk hA hE H1 locs1 ls hL hP1 hD1 hS1)
theorem ag_zast {q0 t0 n a : Nat} {cA : ClassId} {f : Nat → Int32} {i x : Int32} {ws' : va_W} (ht : tys[t0]? = some (cA, .boolean)) (he : ws[q0]? = some (a, .inl (cA, n, .inl f))) (hin : inb i n) (hws : ws.set q0 (a, .inl (cA, n, .inl (upd f i.toNatClampNeg (vp_nar .boolean x)))) = ws') (hd : decode cc pc = .ok (.bastore, 1)) (kk : AG Γ l R A D tys cc own nL ret Qc mc ms E z (pc + 1) L st ws' cells slots) : AG Γ l R A D tys cc own nL ret Qc mc ms E z pc L (.int x :: .int i :: .ref a :: st) ws cells slots := by
  obtain ⟨p, e, s, m, args, below, meth, c⟩ := Γ
  intro hA hE H locs ls hL hP hD hS
  subst hws
  exact va_zast hA.1 hA.2.1 hA.2.2.2.2.2.1 hP hD hS q0 t0 he ht (vp_of_inb hin) hd (fun H1 locs1 hP1 hD1 hS1 => kk hA hE H1 locs1 ls hL hP1 hD1 hS1)
theorem good_code {y : MethodName} {bytes : ByteArray} {maxL : Nat} {rt : Option FieldType} (h : Cond.code y bytes maxL rt ∈ lw_g) : GoodIn lw_g (Cond.code y bytes maxL rt :: lw_g) := by
  intro w hw
  rcases List.mem_cons.mp hw with rfl | h1
  · exact ⟨h, lw_g_good _ h⟩
  · exact ⟨h1, lw_g_good _ h1⟩
theorem cm_pre {D : va_G} {tys : List (ClassId × FieldType)} {ws : va_W} {av : List Value} {s : State} {H : Heap} (hP : va_P D vwCl ws H) (hK : va_K D vwCl tys s) (hN : ∀ w ∈ lw_n, va_Nw w s) : FrameBlind (va_Pc av (fun U => va_P D vwCl ws U.heap ∧ va_K D vwCl tys U ∧ ∀ w ∈ lw_n, va_Nw w U)) ∧ ∀ U : State, U.heap = H → s.WarmedH U.vm → va_Pc av (fun U => va_P D vwCl ws U.heap ∧ va_K D vwCl tys U ∧ ∀ w ∈ lw_n, va_Nw w U) av.toArray U :=
  ⟨fun a U g mk q => by
    obtain ⟨q1, q2, q3, q4⟩ := q
    exact ⟨q1, q2, va_K.moved (u := U) (U := U.calling g mk a) (Vm.Alike.refl U.vm) q3, lw_n_same (s := U) (U := U.calling g mk a) rfl q4⟩, fun U hU hW => ⟨rfl, by rw [hU]; exact hP, va_K.moved hW.alike hK, lw_n_warm hW hN⟩⟩
theorem ag_goes {p : Program} {e : Env} {s : State} {m : MethodId} {args : Array Value} {below : List Frame} {meth : Method} {c : Code} {H : Heap} {locs : List Loc} {ls : Array Slot} {st0 rest : List Value} {a : Array Value} {vw : HV → va_W} {τ : Type} {tv : τ → Option Value} {zc : τ × HV}
    (hvw : ∀ V, va_D A (vw V)) (hA : AF (p, e, s, m, args, below, meth, c) D tys cc own nL ret) (hE : E = z) (hL : LR ls nL L) (hS : va_S A s.heap H locs)
    (hr : va_Run p l e R s m args below meth c H locs cells slots 0 0 (F0 m pc ls st0) rest (QM A D vw tv zc a) A)
    (k : AG (p, e, s, m, args, below, meth, c) l R A D tys cc own nL ret Qc mc ms E z (pc + 3) L ((tv zc.1).toList ++ rest) (vw zc.2) cells slots) : W p l e R s m args below meth c H locs cells slots (MQ below Qc args s mc ms A) (F0 m pc ls st0) := by
  intro T hT X
  obtain ⟨v, st₀, t, T', L1, h0, X', hL1, e1, e2, ⟨hv, hp1, hz, hk⟩, st⟩ := hr T hT X
  have hv := Outcome.returned.inj hv
  subst hv
  rw [h0] at hz hk
  obtain ⟨t2, a1, b1⟩ := k hA hE T'.heap (locs ++ L1) ls hL (by rw [e1]; exact hp1) (hvw _)
    ⟨Nat.le_trans hS.1 (by rw [e1]; exact hz), fun q h1 h2 => by rw [e1, hk q (Nat.lt_of_lt_of_le h1 hS.1) h2]; exact hS.2.1 q h1 h2, fun q hq => by
      rcases List.mem_append.mp hq with h | h
      · exact hS.2.2 q h
      · exact hL1 q h⟩ T' rfl X'
  exact ⟨t2, st t2 a1, b1⟩
theorem ag_iv {vw : HV → va_W} {τ : Type} {tv : τ → Option Value} {y : MethodName} {bytes : ByteArray} {maxL rF rL index n : Nat} {rt : Option FieldType} {As rest : List Value} {V : HV} {zc : τ × HV} {C : String} {T : u_T} {N ci q0 b : Nat} {fs : List Value} (hM : CM l A D tys vw y bytes maxL rt rF rL tv (.ref b :: As) V zc) (hvw : ∀ V, va_D A (vw V)) (he : (vw V)[q0]? = some (b, .inr (ci, fs))) (hc : vwCl[ci]? = some (C, T, N)) (hw : CSV own index C y bytes maxL rt n) (hn : As.length = n) (hst : st = As.reverse ++ .ref b :: rest) (hrest : (rest.map fun v => v.category).sum ≤ 8) (hR : rF + 1 ≤ R.frames ∧ 8 + (maxL + 11) + rL ≤ R.locals) (hcs : cells ≤ R.cells ∧ slots ≤ R.slots) (hd : decode cc pc = .ok (.invokevirtual index, 3)) (k : AG Γ l R A D tys cc own nL ret Qc mc ms E z (pc + 3) L ((tv zc.1).toList ++ rest) (vw zc.2) cells slots) : AG Γ l R A D tys cc own nL ret Qc mc ms E z pc L st (vw V) cells slots := by
  obtain ⟨p, e, s, m, args, below, meth, c⟩ := Γ
  intro hA hE H locs ls hL hP hD hS
  subst hst
  have hN : ∀ w ∈ lw_n, va_Nw w s := hA.2.2.2.2.2.2.2.2
  have hpre := cm_pre (av := .ref b :: As) hP hA.2.2.2.2.2.1 hN
  refine ag_goes hvw hA hE hL hS (va_runV (bytes := bytes) (maxL := maxL) (ret := rt) (As := As) (rest := rest) ⟨hA.1, hA.2.1, hA.2.2.1, hA.2.2.2.1, hA.2.2.2.2.1⟩ hM ?_ ⟨hpre.1, va_recv hA.2.2.2.2.2.1 hP hc he, hpre.2⟩ rfl hn (by exact hL.1) rfl (lv_room hrest) hd ⟨hcs.1, hcs.2⟩) k
  have hG : GoodIn lw_g (wsV own index C y (Cond.code y bytes maxL rt :: lw_g)) := by
    intro w h
    rcases List.mem_append.mp h with h1 | h1
    · have hm : w ∈ lw_g := by
        simp only [List.mem_cons, List.not_mem_nil, or_false] at h1
        rcases h1 with rfl | rfl | rfl | rfl
        · exact hw.1.1
        · exact hw.1.2.1
        · exact hw.1.2.2.1
        · exact hw.1.2.2.2.1
      exact ⟨hm, lw_g_good _ hm⟩
    · exact good_code hw.1.2.2.2.2 w h1
  exact cwV n (hA.2.2.2.2.1) hG rfl rfl rfl hw.2 hR
theorem ag_is {vw : HV → va_W} {τ : Type} {tv : τ → Option Value} {y : MethodName} {bytes : ByteArray} {maxL rF rL index n : Nat} {rt : Option FieldType} {As rest : List Value} {V : HV} {zc : τ × HV} (hM : CM l A D tys vw y bytes maxL rt rF rL tv As V zc) (hvw : ∀ V, va_D A (vw V)) (hw : CSS own index y bytes maxL rt n) (hn : As.length = n) (hst : st = As.reverse ++ rest) (hrest : (rest.map fun v => v.category).sum ≤ 8) (hR : rF + 1 ≤ R.frames ∧ 8 + (maxL + 11) + rL ≤ R.locals) (hcs : cells ≤ R.cells ∧ slots ≤ R.slots) (hd : decode cc pc = .ok (.invokestatic index, 3)) (k : AG Γ l R A D tys cc own nL ret Qc mc ms E z (pc + 3) L ((tv zc.1).toList ++ rest) (vw zc.2) cells slots) : AG Γ l R A D tys cc own nL ret Qc mc ms E z pc L st (vw V) cells slots := by
  obtain ⟨p, e, s, m, args, below, meth, c⟩ := Γ
  intro hA hE H locs ls hL hP hD hS
  subst hst
  have hN : ∀ w ∈ lw_n, va_Nw w s := hA.2.2.2.2.2.2.2.2
  have hpre := cm_pre (av := As) hP hA.2.2.2.2.2.1 hN
  have ht : ∀ w ∈ lw_g, w.before args s = true := hA.2.2.2.2.1
  exact ag_goes hvw hA hE hL hS (va_runS (As := As) (rest := rest) ⟨hA.1, hA.2.1, hA.2.2.1, hA.2.2.2.1, ht⟩ hM ⟨callB_of n ht (good_code hw.1.2.2.2) rfl rfl rfl (ht _ hw.1.2.2.1) (ht _ hw.1.1) hw.2 hR, ht _ hw.1.2.1⟩ hpre rfl hn (by exact hL.1) rfl (lv_room hrest) hd ⟨hcs.1, hcs.2⟩) k
theorem ag_in {vw : HV → va_W} {τ : Type} {tv : τ → Option Value} {y : MethodName} {bytes : ByteArray} {maxL rF rL index n : Nat} {rt : Option FieldType} {As rest : List Value} {V : HV} {zc : τ × HV} {host : String} (hM : CM l A D tys vw y bytes maxL rt rF rL tv As V zc) (hvw : ∀ V, va_D A (vw V)) (hw : CSN own index y host bytes maxL rt n) (hn : As.length = n) (hst : st = As.reverse ++ rest) (hrest : (rest.map fun v => v.category).sum ≤ 8) (hR : rF + 1 ≤ R.frames ∧ 8 + (maxL + 11) + rL ≤ R.locals) (hcs : cells ≤ R.cells ∧ slots ≤ R.slots) (hd : decode cc pc = .ok (.invokestatic index, 3)) (k : AG Γ l R A D tys cc own nL ret Qc mc ms E z (pc + 3) L ((tv zc.1).toList ++ rest) (vw zc.2) cells slots) : AG Γ l R A D tys cc own nL ret Qc mc ms E z pc L st (vw V) cells slots := by
  obtain ⟨p, e, s, m, args, below, meth, c⟩ := Γ
  intro hA hE H locs ls hL hP hD hS
  subst hst
  have hN : ∀ w ∈ lw_n, va_Nw w s := hA.2.2.2.2.2.2.2.2
  have hpre := cm_pre (av := As) hP hA.2.2.2.2.2.1 hN
  have ht : ∀ w ∈ lw_g, w.before args s = true := hA.2.2.2.2.1
  exact ag_goes hvw hA hE hL hS (va_runSN (As := As) (rest := rest) ⟨hA.1, hA.2.1, hA.2.2.1, hA.2.2.2.1, ht⟩ hM ⟨va_cnB n ht (good_code hw.1.2.2.2) rfl rfl rfl (hN _ hw.1.1) (ht _ hw.1.2.2.1) hw.2 hR, ht _ hw.1.2.1, trivial⟩ hpre rfl hn (by exact hL.1) rfl (lv_room hrest) hd ⟨hcs.1, hcs.2⟩) k
theorem ag_irp {x : Int32} {vw : HV → va_W} {V : HV} {z : Int32} (hd : decode cc pc = .ok (.ireturn, 1)) : AG Γ l R A D tys cc own nL (some .int) (QM A D vw tvI (z, V)) cells slots x z pc L [.int x] (vw V) cells slots := by
  obtain ⟨p, e, s, m, args, below, meth, c⟩ := Γ
  intro hA hE H locs ls hL hP hD hS
  subst hE
  exact W.iret hA.1 hA.2.1 hA.2.2.2.2.2.2.2.1 (fun t ht hW => ⟨rfl, by rw [ht]; exact hP, hS.F ht⟩) hS.2.2 hd hA.2.2.2.2.2.2.1
theorem ag_irpp {x : Int32} {vw : HV → va_W} {V : HV} {z : Int32} (hd : decode cc pc = .ok (.ireturn, 1)) : AG Γ l R A D tys cc own nL (some .int) (QM A D vw tvI (z, V)) cells slots (some x) (some z) pc L [.int x] (vw V) cells slots := by
  obtain ⟨p, e, s, m, args, below, meth, c⟩ := Γ
  intro hA hE H locs ls hL hP hD hS
  have hz := Option.some.inj hE
  subst hz
  exact W.iret hA.1 hA.2.1 hA.2.2.2.2.2.2.2.1 (fun t ht hW => ⟨rfl, by rw [ht]; exact hP, hS.F ht⟩) hS.2.2 hd hA.2.2.2.2.2.2.1
theorem ag_ire {x : Int32} {vw : HV → va_W} {V : HV} {z : Int32 × HV} (hd : decode cc pc = .ok (.ireturn, 1)) : AG Γ l R A D tys cc own nL (some .int) (QM A D vw tvI z) cells slots (x, V) z pc L [.int x] (vw V) cells slots := by
  obtain ⟨p, e, s, m, args, below, meth, c⟩ := Γ
  intro hA hE H locs ls hL hP hD hS
  subst hE
  exact W.iret hA.1 hA.2.1 hA.2.2.2.2.2.2.2.1 (fun t ht hW => ⟨rfl, by rw [ht]; exact hP, hS.F ht⟩) hS.2.2 hd hA.2.2.2.2.2.2.1
theorem ag_irep {x : Int32} {vw : HV → va_W} {V : HV} {z : Int32 × HV} (hd : decode cc pc = .ok (.ireturn, 1)) : AG Γ l R A D tys cc own nL (some .int) (QM A D vw tvI z) cells slots (some (x, V)) (some z) pc L [.int x] (vw V) cells slots := by
  obtain ⟨p, e, s, m, args, below, meth, c⟩ := Γ
  intro hA hE H locs ls hL hP hD hS
  have hz := Option.some.inj hE
  subst hz
  exact W.iret hA.1 hA.2.1 hA.2.2.2.2.2.2.2.1 (fun t ht hW => ⟨rfl, by rw [ht]; exact hP, hS.F ht⟩) hS.2.2 hd hA.2.2.2.2.2.2.1
theorem ag_zrp {x : Bool} {vw : HV → va_W} {V : HV} {z : Bool} (hd : decode cc pc = .ok (.ireturn, 1)) : AG Γ l R A D tys cc own nL (some .boolean) (QM A D vw tvZ (z, V)) cells slots x z pc L [.int (b2i x)] (vw V) cells slots := by
  obtain ⟨p, e, s, m, args, below, meth, c⟩ := Γ
  intro hA hE H locs ls hL hP hD hS
  subst hE
  exact W.zret hA.1 hA.2.1 hA.2.2.2.2.2.2.2.1 (b2i_nar x) (fun t ht hW => ⟨rfl, by rw [ht]; exact hP, hS.F ht⟩) hS.2.2 hd hA.2.2.2.2.2.2.1
theorem ag_zrpp {x : Bool} {vw : HV → va_W} {V : HV} {z : Bool} (hd : decode cc pc = .ok (.ireturn, 1)) : AG Γ l R A D tys cc own nL (some .boolean) (QM A D vw tvZ (z, V)) cells slots (some x) (some z) pc L [.int (b2i x)] (vw V) cells slots := by
  obtain ⟨p, e, s, m, args, below, meth, c⟩ := Γ
  intro hA hE H locs ls hL hP hD hS
  have hz := Option.some.inj hE
  subst hz
  exact W.zret hA.1 hA.2.1 hA.2.2.2.2.2.2.2.1 (b2i_nar x) (fun t ht hW => ⟨rfl, by rw [ht]; exact hP, hS.F ht⟩) hS.2.2 hd hA.2.2.2.2.2.2.1
theorem ag_zre {x : Bool} {vw : HV → va_W} {V : HV} {z : Bool × HV} (hd : decode cc pc = .ok (.ireturn, 1)) : AG Γ l R A D tys cc own nL (some .boolean) (QM A D vw tvZ z) cells slots (x, V) z pc L [.int (b2i x)] (vw V) cells slots := by
  obtain ⟨p, e, s, m, args, below, meth, c⟩ := Γ
  intro hA hE H locs ls hL hP hD hS
  subst hE
  exact W.zret hA.1 hA.2.1 hA.2.2.2.2.2.2.2.1 (b2i_nar x) (fun t ht hW => ⟨rfl, by rw [ht]; exact hP, hS.F ht⟩) hS.2.2 hd hA.2.2.2.2.2.2.1
theorem ag_zrep {x : Bool} {vw : HV → va_W} {V : HV} {z : Bool × HV} (hd : decode cc pc = .ok (.ireturn, 1)) : AG Γ l R A D tys cc own nL (some .boolean) (QM A D vw tvZ z) cells slots (some (x, V)) (some z) pc L [.int (b2i x)] (vw V) cells slots := by
  obtain ⟨p, e, s, m, args, below, meth, c⟩ := Γ
  intro hA hE H locs ls hL hP hD hS
  have hz := Option.some.inj hE
  subst hz
  exact W.zret hA.1 hA.2.1 hA.2.2.2.2.2.2.2.1 (b2i_nar x) (fun t ht hW => ⟨rfl, by rw [ht]; exact hP, hS.F ht⟩) hS.2.2 hd hA.2.2.2.2.2.2.1
theorem ag_lrp {x : Int64} {vw : HV → va_W} {V : HV} {z : Int64} (hd : decode cc pc = .ok (.lreturn, 1)) : AG Γ l R A D tys cc own nL (some .long) (QM A D vw tvJ (z, V)) cells slots x z pc L [.long x] (vw V) cells slots := by
  obtain ⟨p, e, s, m, args, below, meth, c⟩ := Γ
  intro hA hE H locs ls hL hP hD hS
  subst hE
  exact W.lret hA.1 hA.2.1 hA.2.2.2.2.2.2.2.1 (fun t ht hW => ⟨rfl, by rw [ht]; exact hP, hS.F ht⟩) hS.2.2 hd hA.2.2.2.2.2.2.1
theorem ag_lrpp {x : Int64} {vw : HV → va_W} {V : HV} {z : Int64} (hd : decode cc pc = .ok (.lreturn, 1)) : AG Γ l R A D tys cc own nL (some .long) (QM A D vw tvJ (z, V)) cells slots (some x) (some z) pc L [.long x] (vw V) cells slots := by
  obtain ⟨p, e, s, m, args, below, meth, c⟩ := Γ
  intro hA hE H locs ls hL hP hD hS
  have hz := Option.some.inj hE
  subst hz
  exact W.lret hA.1 hA.2.1 hA.2.2.2.2.2.2.2.1 (fun t ht hW => ⟨rfl, by rw [ht]; exact hP, hS.F ht⟩) hS.2.2 hd hA.2.2.2.2.2.2.1
theorem ag_lre {x : Int64} {vw : HV → va_W} {V : HV} {z : Int64 × HV} (hd : decode cc pc = .ok (.lreturn, 1)) : AG Γ l R A D tys cc own nL (some .long) (QM A D vw tvJ z) cells slots (x, V) z pc L [.long x] (vw V) cells slots := by
  obtain ⟨p, e, s, m, args, below, meth, c⟩ := Γ
  intro hA hE H locs ls hL hP hD hS
  subst hE
  exact W.lret hA.1 hA.2.1 hA.2.2.2.2.2.2.2.1 (fun t ht hW => ⟨rfl, by rw [ht]; exact hP, hS.F ht⟩) hS.2.2 hd hA.2.2.2.2.2.2.1
theorem ag_lrep {x : Int64} {vw : HV → va_W} {V : HV} {z : Int64 × HV} (hd : decode cc pc = .ok (.lreturn, 1)) : AG Γ l R A D tys cc own nL (some .long) (QM A D vw tvJ z) cells slots (some (x, V)) (some z) pc L [.long x] (vw V) cells slots := by
  obtain ⟨p, e, s, m, args, below, meth, c⟩ := Γ
  intro hA hE H locs ls hL hP hD hS
  have hz := Option.some.inj hE
  subst hz
  exact W.lret hA.1 hA.2.1 hA.2.2.2.2.2.2.2.1 (fun t ht hW => ⟨rfl, by rw [ht]; exact hP, hS.F ht⟩) hS.2.2 hd hA.2.2.2.2.2.2.1
theorem ag_rrp {x : Nat} {ad : Nat → Nat} {nm : String} {vw : HV → va_W} {V : HV} {z : Nat} (hd : decode cc pc = .ok (.areturn, 1)) : AG Γ l R A D tys cc own nL (some (.object nm)) (QM A D vw (tvR ad) (z, V)) cells slots x z pc L [.ref (ad x)] (vw V) cells slots := by
  obtain ⟨p, e, s, m, args, below, meth, c⟩ := Γ
  intro hA hE H locs ls hL hP hD hS
  subst hE
  exact W.aret hA.1 hA.2.1 hA.2.2.2.2.2.2.2.1 (Or.inl ⟨_, rfl⟩) (Or.inr ⟨_, rfl⟩) (fun t ht hW => ⟨rfl, by rw [ht]; exact hP, hS.F ht⟩) hS.2.2 hd hA.2.2.2.2.2.2.1
theorem ag_rrpp {x : Nat} {ad : Nat → Nat} {nm : String} {vw : HV → va_W} {V : HV} {z : Nat} (hd : decode cc pc = .ok (.areturn, 1)) : AG Γ l R A D tys cc own nL (some (.object nm)) (QM A D vw (tvR ad) (z, V)) cells slots (some x) (some z) pc L [.ref (ad x)] (vw V) cells slots := by
  obtain ⟨p, e, s, m, args, below, meth, c⟩ := Γ
  intro hA hE H locs ls hL hP hD hS
  have hz := Option.some.inj hE
  subst hz
  exact W.aret hA.1 hA.2.1 hA.2.2.2.2.2.2.2.1 (Or.inl ⟨_, rfl⟩) (Or.inr ⟨_, rfl⟩) (fun t ht hW => ⟨rfl, by rw [ht]; exact hP, hS.F ht⟩) hS.2.2 hd hA.2.2.2.2.2.2.1
theorem ag_rre {x : Nat} {ad : Nat → Nat} {nm : String} {vw : HV → va_W} {V : HV} {z : Nat × HV} (hd : decode cc pc = .ok (.areturn, 1)) : AG Γ l R A D tys cc own nL (some (.object nm)) (QM A D vw (tvR ad) z) cells slots (x, V) z pc L [.ref (ad x)] (vw V) cells slots := by
  obtain ⟨p, e, s, m, args, below, meth, c⟩ := Γ
  intro hA hE H locs ls hL hP hD hS
  subst hE
  exact W.aret hA.1 hA.2.1 hA.2.2.2.2.2.2.2.1 (Or.inl ⟨_, rfl⟩) (Or.inr ⟨_, rfl⟩) (fun t ht hW => ⟨rfl, by rw [ht]; exact hP, hS.F ht⟩) hS.2.2 hd hA.2.2.2.2.2.2.1
theorem ag_rrep {x : Nat} {ad : Nat → Nat} {nm : String} {vw : HV → va_W} {V : HV} {z : Nat × HV} (hd : decode cc pc = .ok (.areturn, 1)) : AG Γ l R A D tys cc own nL (some (.object nm)) (QM A D vw (tvR ad) z) cells slots (some (x, V)) (some z) pc L [.ref (ad x)] (vw V) cells slots := by
  obtain ⟨p, e, s, m, args, below, meth, c⟩ := Γ
  intro hA hE H locs ls hL hP hD hS
  have hz := Option.some.inj hE
  subst hz
  exact W.aret hA.1 hA.2.1 hA.2.2.2.2.2.2.2.1 (Or.inl ⟨_, rfl⟩) (Or.inr ⟨_, rfl⟩) (fun t ht hW => ⟨rfl, by rw [ht]; exact hP, hS.F ht⟩) hS.2.2 hd hA.2.2.2.2.2.2.1
theorem ag_orp {x : Option Nat} {ad : Nat → Nat} {nm : String} {vw : HV → va_W} {V : HV} {z : (Option Nat)} (hd : decode cc pc = .ok (.areturn, 1)) : AG Γ l R A D tys cc own nL (some (.object nm)) (QM A D vw (tvO ad) (z, V)) cells slots x z pc L [va_rf (x.map ad)] (vw V) cells slots := by
  obtain ⟨p, e, s, m, args, below, meth, c⟩ := Γ
  intro hA hE H locs ls hL hP hD hS
  subst hE
  exact W.aret hA.1 hA.2.1 hA.2.2.2.2.2.2.2.1 (Or.inl ⟨_, rfl⟩) (by cases x; exact Or.inl rfl; exact Or.inr ⟨_, rfl⟩) (fun t ht hW => ⟨rfl, by rw [ht]; exact hP, hS.F ht⟩) hS.2.2 hd hA.2.2.2.2.2.2.1
theorem ag_orpp {x : Option Nat} {ad : Nat → Nat} {nm : String} {vw : HV → va_W} {V : HV} {z : (Option Nat)} (hd : decode cc pc = .ok (.areturn, 1)) : AG Γ l R A D tys cc own nL (some (.object nm)) (QM A D vw (tvO ad) (z, V)) cells slots (some x) (some z) pc L [va_rf (x.map ad)] (vw V) cells slots := by
  obtain ⟨p, e, s, m, args, below, meth, c⟩ := Γ
  intro hA hE H locs ls hL hP hD hS
  have hz := Option.some.inj hE
  subst hz
  exact W.aret hA.1 hA.2.1 hA.2.2.2.2.2.2.2.1 (Or.inl ⟨_, rfl⟩) (by cases x; exact Or.inl rfl; exact Or.inr ⟨_, rfl⟩) (fun t ht hW => ⟨rfl, by rw [ht]; exact hP, hS.F ht⟩) hS.2.2 hd hA.2.2.2.2.2.2.1
theorem ag_ore {x : Option Nat} {ad : Nat → Nat} {nm : String} {vw : HV → va_W} {V : HV} {z : (Option Nat) × HV} (hd : decode cc pc = .ok (.areturn, 1)) : AG Γ l R A D tys cc own nL (some (.object nm)) (QM A D vw (tvO ad) z) cells slots (x, V) z pc L [va_rf (x.map ad)] (vw V) cells slots := by
  obtain ⟨p, e, s, m, args, below, meth, c⟩ := Γ
  intro hA hE H locs ls hL hP hD hS
  subst hE
  exact W.aret hA.1 hA.2.1 hA.2.2.2.2.2.2.2.1 (Or.inl ⟨_, rfl⟩) (by cases x; exact Or.inl rfl; exact Or.inr ⟨_, rfl⟩) (fun t ht hW => ⟨rfl, by rw [ht]; exact hP, hS.F ht⟩) hS.2.2 hd hA.2.2.2.2.2.2.1
theorem ag_orep {x : Option Nat} {ad : Nat → Nat} {nm : String} {vw : HV → va_W} {V : HV} {z : (Option Nat) × HV} (hd : decode cc pc = .ok (.areturn, 1)) : AG Γ l R A D tys cc own nL (some (.object nm)) (QM A D vw (tvO ad) z) cells slots (some (x, V)) (some z) pc L [va_rf (x.map ad)] (vw V) cells slots := by
  obtain ⟨p, e, s, m, args, below, meth, c⟩ := Γ
  intro hA hE H locs ls hL hP hD hS
  have hz := Option.some.inj hE
  subst hz
  exact W.aret hA.1 hA.2.1 hA.2.2.2.2.2.2.2.1 (Or.inl ⟨_, rfl⟩) (by cases x; exact Or.inl rfl; exact Or.inr ⟨_, rfl⟩) (fun t ht hW => ⟨rfl, by rw [ht]; exact hP, hS.F ht⟩) hS.2.2 hd hA.2.2.2.2.2.2.1
theorem ag_vre {vw : HV → va_W} {V : HV} {z : HV} (hd : decode cc pc = .ok (.return_, 1)) : AG Γ l R A D tys cc own nL none (QM A D vw tvV ((), z)) cells slots V z pc L [] (vw V) cells slots := by
  obtain ⟨p, e, s, m, args, below, meth, c⟩ := Γ
  intro hA hE H locs ls hL hP hD hS
  subst hE
  exact W.vret hA.1 hA.2.1 hA.2.2.2.2.2.2.2.1 (fun t ht hW => ⟨rfl, by rw [ht]; exact hP, hS.F ht⟩) hS.2.2 hd hA.2.2.2.2.2.2.1
theorem ag_vrep {vw : HV → va_W} {V : HV} {z : HV} (hd : decode cc pc = .ok (.return_, 1)) : AG Γ l R A D tys cc own nL none (QM A D vw tvV ((), z)) cells slots (some V) (some z) pc L [] (vw V) cells slots := by
  obtain ⟨p, e, s, m, args, below, meth, c⟩ := Γ
  intro hA hE H locs ls hL hP hD hS
  have hz := Option.some.inj hE
  subst hz
  exact W.vret hA.1 hA.2.1 hA.2.2.2.2.2.2.2.1 (fun t ht hW => ⟨rfl, by rw [ht]; exact hP, hS.F ht⟩) hS.2.2 hd hA.2.2.2.2.2.2.1
end AGH
def argL : List Value → List (Option Value)
  | [] => []
  | v :: vs => if v.category = 2 then some v :: none :: argL vs else some v :: argL vs
theorem argL_at : ∀ (vs : List Value) (i j : Nat) (v : Value), (argL vs)[j]? = some (some v) → (i + j, v) ∈ lv_args i vs
  | [], i, j, v, h => by simp [argL] at h
  | w :: vs, i, j, v, h => by
    unfold argL at h
    unfold lv_args
    by_cases hc : w.category = 2
    · rw [if_pos hc] at h
      rw [if_pos hc]
      match j with
      | 0 => simp at h; subst h; exact List.mem_cons_self
      | 1 => simp at h
      | j + 2 =>
        simp only [List.getElem?_cons_succ] at h
        have := argL_at vs (i + 2) j v h
        rw [show i + (j + 2) = i + 2 + j by omega]
        exact List.mem_cons_of_mem _ this
    · rw [if_neg hc] at h
      rw [if_neg hc]
      cases j with
      | zero => simp at h; subst h; exact List.mem_cons_self
      | succ j =>
        rw [List.getElem?_cons_succ] at h
        have := argL_at vs (i + 1) j v h
        rw [show i + (j + 1) = i + 1 + j by omega]
        exact List.mem_cons_of_mem _ this
def pad : Nat → List (Option Value) → List (Option Value)
  | 0, L => L
  | n + 1, [] => none :: pad n []
  | n + 1, a :: L => a :: pad n L
theorem pad_at : ∀ (n : Nat) (L : List (Option Value)) (j : Nat) (v : Value), (pad n L)[j]? = some (some v) → L[j]? = some (some v)
  | 0, L, j, v, h => h
  | n + 1, [], j, v, h => by
    cases j with
    | zero => simp [pad] at h
    | succ j => simp only [pad, List.getElem?_cons_succ] at h; have := pad_at n [] j v h; simp at this
  | n + 1, a :: L, j, v, h => by
    cases j with
    | zero => simpa [pad] using h
    | succ j => simp only [pad, List.getElem?_cons_succ] at h; simpa using pad_at n L j v h
/-- a method's contract out of the walk of its body -/
theorem cm_of {l : Launch} {A : Nat → Prop} {D : va_G} {tys : List (ClassId × FieldType)} {vw : HV → va_W} {y : MethodName} {cc : ByteArray} {nL : Nat} {ret : Option FieldType} {rF rL : Nat} {τ : Type} {tv : τ → Option Value} {av : List Value} {V : HV} {z : τ × HV} {ρ : Type} {E z0 : ρ} {L : List (Option Value)} {own : String}
    (hvw : ∀ V, va_D A (vw V)) (hy : plainFor y = true) (hown : y.cls = own) (hav : (lg_sl av).length ≤ nL) (hL : pad nL (argL av) = L) (hE : E = z0)
    (body : ∀ Γ : Cx, AG Γ l { frames := rF, cells := 0, slots := 0, locals := rL } A D tys cc own nL ret (QM A D vw tv z) 0 0 E z0 0 L [] (vw V) 0 0) : CM l A D tys vw y cc nL ret rF rL tv av V z := by
  refine va_MetF (cc := cc) (maxL := nL) (ret := ret) hy rfl ?_
  intro p e s m args below meth c s₁ B hml hv
  obtain ⟨rfl, hP, hK, hN⟩ := hv
  have hts := atoms_spec (ws := Cond.code y cc nL ret :: lw_g) B.pre
  have hown' : s.vm.findClass y.cls = some m.cls := findClass_of_methodNamed B.named
  have hl := lv_entry av (n := nL) hav
  rw [lg_entry_eq]
  generalize (lg_sl av ++ List.replicate (nL - (lg_sl av).length) Slot.unset).toArray = ls at hl ⊢
  have hLR : LR ls nL L := by
    refine ⟨hl.1, hl.2.1, fun i v h => ?_⟩
    rw [← hL] at h
    have h1 := argL_at av 0 i v (pad_at _ _ _ _ h)
    rw [Nat.zero_add] at h1
    exact hl.2.2 _ h1
  exact body (p, e, s, m, _, below, meth, c) ⟨B.exec, B.bytes, hml, by rw [← hown]; exact hown', fun w hw => hts w (List.mem_cons_of_mem _ hw), hK, B.notSynchronized, B.returns, hN⟩ hE s.heap [] ls hLR hP (hvw _) va_S.rf
