def V1M (x : Int32) : HV := fun c _ _ => if c = 1000 then 1024 * nI (kbN x) else if c = 1016 then -1 else 0
def CNM (l : Launch) (D : va_G) (cy : Nat → ClassId) (y : MethodName) (bytes : ByteArray) (maxL : Nat) (rF rL cnt sl : Nat) (As : List Value) (a : Nat) (x0 : va_E) (V2 : HV) : Prop :=
  Met l y (Cond.code y bytes maxL none :: lw_g) { frames := rF, cells := cnt, slots := sl, locals := rL } (va_Pc (.ref a :: As) (fun U => (va_P D vwCl (vwG 1 a (fun _ => x0)) U.heap ∧ U.heap.size = a + 1) ∧ va_K D vwCl (tyL cy) U ∧ (∀ w ∈ lw_n, va_Nw w U) ∧ lw_o U)) (fun _ st o t => o = .returned none ∧ va_P D vwCl (vwM cy a V2) t.heap ∧ va_F (fun q => a ≤ q) st t) cnt sl (fun q => a ≤ q)
abbrev QNM (D : va_G) (cy : Nat → ClassId) (a cnt sl : Nat) (V2 : HV) : Cx → State → Prop := fun Γ => MQ Γ.2.2.2.2.2.1 (fun _ st o t => o = .returned none ∧ va_P D vwCl (vwM cy a V2) t.heap ∧ va_F (fun q => a ≤ q) st t) Γ.2.2.2.2.1 Γ.2.2.1 cnt sl (fun q => a ≤ q)
theorem cnm_of {l : Launch} {D : va_G} {cy : Nat → ClassId} {y : MethodName} {cc : ByteArray} {nL rF rL cnt sl : Nat} {As : List Value} {a : Nat} {x0 : va_E} {V2 : HV} {L : List (Option Value)} {own : String}
    (hy : plainFor y = true) (hown : y.cls = own) (hnm : y.name = "<init>") (hav : (lg_sl (.ref a :: As)).length ≤ nL) (hL : pad nL (argL (.ref a :: As)) = L)
    (body : ∀ Γ : Cx, AN Γ l { frames := rF, cells := cnt, slots := sl, locals := rL } D cy cc own nL none (QNM D cy a cnt sl V2) a true 0 L [] 1 (fun _ => x0) 0 0) : CNM l D cy y cc nL rF rL cnt sl As a x0 V2 := by
  refine va_MetF (cc := cc) (maxL := nL) (ret := none) hy rfl ?_
  intro p e s m args below meth c s₁ B hml hv
  obtain ⟨rfl, ⟨hP, hsz⟩, hK, hN, hO⟩ := hv
  have hts := atoms_spec (ws := Cond.code y cc nL none :: lw_g) B.pre
  have hown' : s.vm.findClass y.cls = some m.cls := findClass_of_methodNamed B.named
  have hl := lv_entry (.ref a :: As) (n := nL) hav
  rw [lg_entry_eq]
  generalize (lg_sl (.ref a :: As) ++ List.replicate (nL - (lg_sl (.ref a :: As)).length) Slot.unset).toArray = ls at hl ⊢
  have hLR : LR ls nL L := by
    refine ⟨hl.1, hl.2.1, fun i v h => ?_⟩
    rw [← hL] at h
    have h1 := argL_at (.ref a :: As) 0 i v (pad_at _ _ _ _ h)
    rw [Nat.zero_add] at h1
    exact hl.2.2 _ h1
  exact body (p, e, s, m, _, below, meth, c) ⟨B.exec, B.bytes, hml, by rw [← hown]; exact hown', fun w hw => hts w (List.mem_cons_of_mem _ hw), hK, B.notSynchronized, B.returns, hN⟩ hO (fun _ => by rw [(name_of_methodNamed B.named B.method).1]; exact hnm) s.heap [] ls hLR hP hsz va_S.rf
/-- the call of a method that makes nothing, over the reference's world, as a constructor's last act -/
theorem an_last {Γ : Cx} {l : Launch} {R : Room} {D : va_G} {cy : Nat → ClassId} {cc : ByteArray} {own : String} {nL : Nat} {a : Nat} {ini : Bool} {pc : Nat} {L : List (Option Value)} {cells slots cnt sl : Nat} {V V2 : HV} {y : MethodName} {bytes : ByteArray} {maxL rF rL index : Nat}
    (hM : CM l (aG 57 a) D (tyL cy) (vwM cy a) y bytes maxL none rF rL tvV [.ref (a + posM 10 0)] V ((), V2)) (hw : CSV own index RX12 y bytes maxL none 0) (hR : rF + 1 ≤ R.frames ∧ 8 + (maxL + 11) + rL ≤ R.locals) (hcs : cells ≤ R.cells ∧ slots ≤ R.slots) (hd : decode cc pc = .ok (.invokevirtual index, 3)) (hd2 : decode cc (pc + 3) = .ok (.return_, 1)) (hc : cells ≤ cnt ∧ slots ≤ sl) :
    AN Γ l R D cy cc own nL none (QNM D cy a cnt sl V2) a ini pc L [.ref (a + posM 10 0)] 57 (fun p => cellM cy a V (kdM p).1 (kdM p).2) cells slots := by
  obtain ⟨p, e, s, m, args, below, meth, c⟩ := Γ
  intro hA hO hI H locs ls hL hP hz hS
  have hP' : va_P D vwCl (vwM cy a V) H := hP
  have hN : ∀ w ∈ lw_n, va_Nw w s := hA.2.2.2.2.2.2.2.2
  have hpre := cm_pre (av := [.ref (a + posM 10 0)]) hP' hA.2.2.2.2.2.1 hN
  have hG : GoodIn lw_g (wsV own index RX12 y (Cond.code y bytes maxL none :: lw_g)) := by
    intro w h
    rcases List.mem_append.mp h with h1 | h1
    · have hm : w ∈ lw_g := by
        simp only [List.mem_cons, List.not_mem_nil, or_false] at h1
        rcases h1 with rfl | rfl | rfl | rfl
        · exact hw.1.1
        · exact hw.1.2.1
        · exact hw.1.2.2.1
        · exact hw.1.2.2.2.1
      exact ⟨hm, lw_g_good _ hm⟩
    · exact good_code hw.1.2.2.2.2 w h1
  have hrun := va_runV (bytes := bytes) (maxL := maxL) (ret := none) (H := H) (locs := locs) (cells := cells) (slots := slots) (g := F0 m pc ls [.ref (a + posM 10 0)]) (As := []) (rest := []) ⟨hA.1, hA.2.1, hA.2.2.1, hA.2.2.2.1, hA.2.2.2.2.1⟩ hM (cwV 0 hA.2.2.2.2.1 hG rfl rfl rfl hw.2 hR) ⟨hpre.1, va_recv hA.2.2.2.2.2.1 hP' (ci := 10) rfl (vwM_at (kpM_10 0 (by decide))), hpre.2⟩ rfl rfl (by exact hL.1) rfl (lv_room (Nat.le_of_ble_eq_true rfl)) hd ⟨hcs.1, hcs.2⟩ (meth := meth) (below := below) (e := e)
  intro T hT X
  obtain ⟨v, st₀, t, T', L1, h0, X', hL1, e1, e2, ⟨hv, hp1, hzf, hk⟩, stp⟩ := hrun T hT X
  have hv := Outcome.returned.inj hv
  subst hv
  rw [h0] at hzf hk
  have k3 : va_S (fun q => a ≤ q) s.heap T'.heap (locs ++ L1) := by
    refine ⟨Nat.le_trans hS.1 (by rw [e1]; exact hzf), fun q h1 h2 => ?_, fun q hq => ?_⟩
    · rw [e1, hk q (by have := hS.1; omega) (fun hq => h2 hq.1)]
      exact hS.2.1 q h1 h2
    · rcases List.mem_append.mp hq with h | h
      · exact hS.2.2 q h
      · exact (hL1 q h).1
  have hfin : W p l e R s m args below meth c T'.heap (locs ++ L1) cells slots (QNM D cy a cnt sl V2 (p, e, s, m, args, below, meth, c)) (F0 m (pc + 3) ls []) := by
    refine W.widen (k := cnt) (n := sl) hc.1 hc.2 ?_
    exact W.vret hA.1 hA.2.1 hA.2.2.2.2.2.2.2.1 (fun t' ht' hW => ⟨rfl, by rw [ht', e1]; exact hp1, k3.F ht'⟩) k3.2.2 hd2 hA.2.2.2.2.2.2.1
  obtain ⟨t2, a1, b1⟩ := hfin T' rfl X'
  exact ⟨t2, stp t2 a1, b1⟩
def mA (cy : Nat → ClassId) (p : Nat) : va_E := match p with
  | 1 => .inl (cy 1, 600, .inl (fun _ => 0))
  | 2 => .inl (cy 1, 600, .inl (fun _ => 0))
  | 3 => .inl (cy 1, 600, .inl (fun _ => 0))
  | 4 => .inl (cy 1, 600, .inl (fun _ => 0))
  | 5 => .inl (cy 1, 600, .inl (fun _ => 0))
  | 6 => .inl (cy 2, 600, .inl (fun _ => 0))
  | 7 => .inl (cy 0, 5000, .inl (fun _ => 0))
  | 8 => .inl (cy 0, 5000, .inl (fun _ => 0))
  | 9 => .inl (cy 1, 8, .inl (fun _ => 0))
  | 10 => .inl (cy 1, 8, .inl (fun _ => 0))
  | 11 => .inl (cy 1, 8, .inl (fun _ => 0))
  | 12 => .inl (cy 1, 8, .inl (fun _ => 0))
  | 13 => .inl (cy 1, 8, .inl (fun _ => 0))
  | 14 => .inl (cy 1, 64, .inl (fun _ => 0))
  | 15 => .inl (cy 1, 64, .inl (fun _ => 0))
  | 16 => .inl (cy 1, 6, .inl (fun _ => 0))
  | 17 => .inl (cy 1, 6, .inl (fun _ => 0))
  | 18 => .inl (cy 1, 6, .inl (fun _ => 0))
  | 19 => .inl (cy 1, 6, .inl (fun _ => 0))
  | 20 => .inl (cy 1, 6, .inl (fun _ => 0))
  | 21 => .inl (cy 2, 6, .inl (fun _ => 0))
  | 22 => .inl (cy 1, 6, .inl (fun _ => 0))
  | 23 => .inl (cy 1, 6, .inl (fun _ => 0))
  | 24 => .inl (cy 1, 6, .inl (fun _ => 0))
  | 25 => .inl (cy 1, 6, .inl (fun _ => 0))
  | 26 => .inl (cy 1, 6, .inl (fun _ => 0))
  | 27 => .inl (cy 1, 6, .inl (fun _ => 0))
  | 28 => .inl (cy 1, 6, .inl (fun _ => 0))
  | 29 => .inl (cy 1, 6, .inl (fun _ => 0))
  | 30 => .inl (cy 1, 6, .inl (fun _ => 0))
  | 31 => .inl (cy 1, 6, .inl (fun _ => 0))
  | 32 => .inl (cy 1, 6, .inl (fun _ => 0))
  | 33 => .inl (cy 1, 96, .inl (fun _ => 0))
  | 34 => .inl (cy 2, 96, .inl (fun _ => 0))
  | 35 => .inl (cy 1, 96, .inl (fun _ => 0))
  | 36 => .inl (cy 1, 2049, .inl (fun _ => 0))
  | 37 => .inl (cy 1, 2049, .inl (fun _ => 0))
  | 38 => .inl (cy 2, 2049, .inl (fun _ => 0))
  | 39 => .inl (cy 2, 2049, .inl (fun _ => 0))
  | 40 => .inl (cy 1, 64, .inl (fun _ => 0))
  | 41 => .inl (cy 1, 500, .inl (fun _ => 0))
  | 42 => .inl (cy 1, 8, .inl (fun _ => 0))
  | 43 => .inl (cy 1, 8, .inl (fun _ => 0))
  | 44 => .inl (cy 1, 8, .inl (fun _ => 0))
  | 45 => .inl (cy 1, 128, .inl (fun _ => 0))
  | 46 => .inl (cy 1, 128, .inl (fun _ => 0))
  | 47 => .inl (cy 1, 128, .inl (fun _ => 0))
  | 48 => .inl (cy 1, 128, .inl (fun _ => 0))
  | 49 => .inl (cy 1, 8, .inl (fun _ => 0))
  | 50 => .inl (cy 1, 6, .inl (fun _ => 0))
  | 51 => .inl (cy 1, 6, .inl (fun _ => 0))
  | 52 => .inl (cy 1, 6, .inl (fun _ => 0))
  | 53 => .inl (cy 1, 6, .inl (fun _ => 0))
  | 54 => .inl (cy 0, 32768, .inl (fun _ => 0))
  | 55 => .inl (cy 2, 2048, .inl (fun _ => 0))
  | 56 => .inl (cy 2, 2048, .inl (fun _ => 0))
  | _ => capZ
def mdZ (cy : Nat → ClassId) (fs : List Value) (p : Nat) : va_E := if p = 0 then .inr (10, fs) else mA cy p
theorem md_step {cy : Nat → ClassId} {fs fs' : List Value} {v : Value} {k n : Nat} {e : va_E} (hs : fs.set k v = fs') (hA : mA cy n = e) (hn : ¬ n = 0) (p : Nat) : va_up (va_up (mdZ cy fs) n e) 0 (.inr (10, fs.set k v)) p = mdZ cy fs' p := by
  subst hs
  unfold va_up mdZ
  by_cases h0 : p = 0
  · simp [h0]
  · by_cases hp : p = n
    · subst hp
      simp [h0, hA]
    · simp [h0, hp]
theorem md_put {cy : Nat → ClassId} {fs fs' : List Value} {v : Value} {k : Nat} (hs : fs.set k v = fs') (p : Nat) : va_up (mdZ cy fs) 0 (.inr (10, fs.set k v)) p = mdZ cy fs' p := by
  subst hs
  unfold va_up mdZ
  by_cases h0 : p = 0
  · simp [h0]
  · simp [h0]
theorem md_zero {cy : Nat → ClassId} {fs : List Value} : ∀ p, p < 1 → (fun _ => (.inr (10, fs) : va_E)) p = mdZ cy fs p := fun p hp => by simp [mdZ, show p = 0 by omega]
theorem an_tail {Γ : Cx} {l : Launch} {R : Room} {D : va_G} {cy : Nat → ClassId} {cc : ByteArray} {own : String} {nL : Nat} {ret : Option FieldType} {Q : Cx → State → Prop} {a : Nat} {ini : Bool} {pc pc1 : Nat} {L : List (Option Value)} {st : List Value} {n : Nat} {F : Nat → va_E} {cells slots : Nat} {x : Int32} (h : AN Γ l R D cy cc own nL ret Q a ini pc1 L (.int x :: st) n F cells slots) (k : AN Γ l R D cy cc own nL ret Q a ini pc1 L (.int x :: st) n F cells slots → AN Γ l R D cy cc own nL ret Q a ini pc L st n F cells slots) : AN Γ l R D cy cc own nL ret Q a ini pc L st n F cells slots := k h
set_option maxRecDepth 100000 in
set_option maxHeartbeats 4000000 in
theorem n_X12 {l : Launch} {D : va_G} {cy : Nat → ClassId} (x : Int32) (a : Nat) {V2 : HV} (hz : f_X12_begins 0 (V1M x) = some V2) : CNM l D cy yX12_init cX12_init 2 3 69 56 60350 [.int x] a (.inr (10, [.int 0, .null, .null, .null, .null, .null, .null, .null, .null, .null, .null, .int 0, .null, .int 0, .int 0, .int 0, .int 0, .int 0, .int 0, .int 0, .null, .null, .null, .null, .null, .null, .null, .null, .null, .null, .null, .null, .null, .null, .null, .null, .null, .null, .null, .null, .null, .null, .null, .null, .null, .null, .null, .int 0, .int 0, .int 0, .int 0, .int 0, .int 0, .int 0, .int 0, .int 0, .null, .null, .null, .null, .int 0, .int 0, .int 0, .null, .int 0, .null, .int 0, .int 0, .null, .null, .null, .null, .null, .null, .null, .null, .null, .null, .null, .null, .int 0, .int 0])) V2 := by
  refine cnm_of (by decide +kernel) (own := RX12) rfl rfl (Nat.le_of_ble_eq_true rfl) (L := [some (.ref a), some (.int x)]) rfl (fun Γ => ?_)
  refine an_F (G := mdZ cy [.int 0, .null, .null, .null, .null, .null, .null, .null, .null, .null, .null, .int 0, .null, .int 0, .int 0, .int 0, .int 0, .int 0, .int 0, .int 0, .null, .null, .null, .null, .null, .null, .null, .null, .null, .null, .null, .null, .null, .null, .null, .null, .null, .null, .null, .null, .null, .null, .null, .null, .null, .null, .null, .int 0, .int 0, .int 0, .int 0, .int 0, .int 0, .int 0, .int 0, .int 0, .null, .null, .null, .null, .int 0, .int 0, .int 0, .null, .int 0, .null, .int 0, .int 0, .null, .null, .null, .null, .null, .null, .null, .null, .null, .null, .null, .null, .int 0, .int 0]) md_zero ?_
  refine an_aload_n dX12_init_0 rfl ?_
  refine an_obj ol_X12_1 (Nat.le_of_ble_eq_true rfl) ⟨Nat.le_of_ble_eq_true rfl, Nat.le_of_ble_eq_true rfl⟩ dX12_init_1 ?_
  refine an_aload_n dX12_init_4 rfl ?_
  refine an_sipush (v := 600) dX12_init_5 (by decide) ?_
  refine an_newaI (N := 600) (by decide) (by decide) (by decide) ⟨Nat.le_of_ble_eq_true rfl, Nat.le_of_ble_eq_true rfl⟩ dX12_init_8 ?_
  refine an_put ingX12 tyX12_ok nmX12 (ci := 10) (k := 4) rfl (by decide) rfl rfl rfl rfl (q0 := 0) (by omega) rfl (Nat.le_of_ble_eq_true rfl) fl_X12_7 dX12_init_10 ?_
  refine an_n (n' := 2) rfl ?_
  refine an_F (G := mdZ cy [.int 0, .null, .null, .null, .ref (a + 1), .null, .null, .null, .null, .null, .null, .int 0, .null, .int 0, .int 0, .int 0, .int 0, .int 0, .int 0, .int 0, .null, .null, .null, .null, .null, .null, .null, .null, .null, .null, .null, .null, .null, .null, .null, .null, .null, .null, .null, .null, .null, .null, .null, .null, .null, .null, .null, .int 0, .int 0, .int 0, .int 0, .int 0, .int 0, .int 0, .int 0, .int 0, .null, .null, .null, .null, .int 0, .int 0, .int 0, .null, .int 0, .null, .int 0, .int 0, .null, .null, .null, .null, .null, .null, .null, .null, .null, .null, .null, .null, .int 0, .int 0]) (fun p _ => md_step rfl rfl (by decide) p) ?_
  refine an_aload_n dX12_init_13 rfl ?_
  refine an_sipush (v := 600) dX12_init_14 (by decide) ?_
  refine an_newaI (N := 600) (by decide) (by decide) (by decide) ⟨Nat.le_of_ble_eq_true rfl, Nat.le_of_ble_eq_true rfl⟩ dX12_init_17 ?_
  refine an_put ingX12 tyX12_ok nmX12 (ci := 10) (k := 5) rfl (by decide) rfl rfl rfl rfl (q0 := 0) (by omega) rfl (Nat.le_of_ble_eq_true rfl) fl_X12_13 dX12_init_19 ?_
  refine an_n (n' := 3) rfl ?_
  refine an_F (G := mdZ cy [.int 0, .null, .null, .null, .ref (a + 1), .ref (a + 2), .null, .null, .null, .null, .null, .int 0, .null, .int 0, .int 0, .int 0, .int 0, .int 0, .int 0, .int 0, .null, .null, .null, .null, .null, .null, .null, .null, .null, .null, .null, .null, .null, .null, .null, .null, .null, .null, .null, .null, .null, .null, .null, .null, .null, .null, .null, .int 0, .int 0, .int 0, .int 0, .int 0, .int 0, .int 0, .int 0, .int 0, .null, .null, .null, .null, .int 0, .int 0, .int 0, .null, .int 0, .null, .int 0, .int 0, .null, .null, .null, .null, .null, .null, .null, .null, .null, .null, .null, .null, .int 0, .int 0]) (fun p _ => md_step rfl rfl (by decide) p) ?_
  refine an_aload_n dX12_init_22 rfl ?_
  refine an_sipush (v := 600) dX12_init_23 (by decide) ?_
  refine an_newaI (N := 600) (by decide) (by decide) (by decide) ⟨Nat.le_of_ble_eq_true rfl, Nat.le_of_ble_eq_true rfl⟩ dX12_init_26 ?_
  refine an_put ingX12 tyX12_ok nmX12 (ci := 10) (k := 6) rfl (by decide) rfl rfl rfl rfl (q0 := 0) (by omega) rfl (Nat.le_of_ble_eq_true rfl) fl_X12_16 dX12_init_28 ?_
  refine an_n (n' := 4) rfl ?_
  refine an_F (G := mdZ cy [.int 0, .null, .null, .null, .ref (a + 1), .ref (a + 2), .ref (a + 3), .null, .null, .null, .null, .int 0, .null, .int 0, .int 0, .int 0, .int 0, .int 0, .int 0, .int 0, .null, .null, .null, .null, .null, .null, .null, .null, .null, .null, .null, .null, .null, .null, .null, .null, .null, .null, .null, .null, .null, .null, .null, .null, .null, .null, .null, .int 0, .int 0, .int 0, .int 0, .int 0, .int 0, .int 0, .int 0, .int 0, .null, .null, .null, .null, .int 0, .int 0, .int 0, .null, .int 0, .null, .int 0, .int 0, .null, .null, .null, .null, .null, .null, .null, .null, .null, .null, .null, .null, .int 0, .int 0]) (fun p _ => md_step rfl rfl (by decide) p) ?_
  refine an_aload_n dX12_init_31 rfl ?_
  refine an_sipush (v := 600) dX12_init_32 (by decide) ?_
  refine an_newaI (N := 600) (by decide) (by decide) (by decide) ⟨Nat.le_of_ble_eq_true rfl, Nat.le_of_ble_eq_true rfl⟩ dX12_init_35 ?_
  refine an_put ingX12 tyX12_ok nmX12 (ci := 10) (k := 7) rfl (by decide) rfl rfl rfl rfl (q0 := 0) (by omega) rfl (Nat.le_of_ble_eq_true rfl) fl_X12_19 dX12_init_37 ?_
  refine an_n (n' := 5) rfl ?_
  refine an_F (G := mdZ cy [.int 0, .null, .null, .null, .ref (a + 1), .ref (a + 2), .ref (a + 3), .ref (a + 4), .null, .null, .null, .int 0, .null, .int 0, .int 0, .int 0, .int 0, .int 0, .int 0, .int 0, .null, .null, .null, .null, .null, .null, .null, .null, .null, .null, .null, .null, .null, .null, .null, .null, .null, .null, .null, .null, .null, .null, .null, .null, .null, .null, .null, .int 0, .int 0, .int 0, .int 0, .int 0, .int 0, .int 0, .int 0, .int 0, .null, .null, .null, .null, .int 0, .int 0, .int 0, .null, .int 0, .null, .int 0, .int 0, .null, .null, .null, .null, .null, .null, .null, .null, .null, .null, .null, .null, .int 0, .int 0]) (fun p _ => md_step rfl rfl (by decide) p) ?_
  refine an_aload_n dX12_init_40 rfl ?_
  refine an_sipush (v := 600) dX12_init_41 (by decide) ?_
  refine an_newaI (N := 600) (by decide) (by decide) (by decide) ⟨Nat.le_of_ble_eq_true rfl, Nat.le_of_ble_eq_true rfl⟩ dX12_init_44 ?_
  refine an_put ingX12 tyX12_ok nmX12 (ci := 10) (k := 8) rfl (by decide) rfl rfl rfl rfl (q0 := 0) (by omega) rfl (Nat.le_of_ble_eq_true rfl) fl_X12_22 dX12_init_46 ?_
  refine an_n (n' := 6) rfl ?_
  refine an_F (G := mdZ cy [.int 0, .null, .null, .null, .ref (a + 1), .ref (a + 2), .ref (a + 3), .ref (a + 4), .ref (a + 5), .null, .null, .int 0, .null, .int 0, .int 0, .int 0, .int 0, .int 0, .int 0, .int 0, .null, .null, .null, .null, .null, .null, .null, .null, .null, .null, .null, .null, .null, .null, .null, .null, .null, .null, .null, .null, .null, .null, .null, .null, .null, .null, .null, .int 0, .int 0, .int 0, .int 0, .int 0, .int 0, .int 0, .int 0, .int 0, .null, .null, .null, .null, .int 0, .int 0, .int 0, .null, .int 0, .null, .int 0, .int 0, .null, .null, .null, .null, .null, .null, .null, .null, .null, .null, .null, .null, .int 0, .int 0]) (fun p _ => md_step rfl rfl (by decide) p) ?_
  refine an_aload_n dX12_init_49 rfl ?_
  refine an_sipush (v := 600) dX12_init_50 (by decide) ?_
  refine an_newaZ (N := 600) (by decide) (by decide) (by decide) ⟨Nat.le_of_ble_eq_true rfl, Nat.le_of_ble_eq_true rfl⟩ dX12_init_53 ?_
  refine an_put ingX12 tyX12_ok nmX12 (ci := 10) (k := 9) rfl (by decide) rfl rfl rfl rfl (q0 := 0) (by omega) rfl (Nat.le_of_ble_eq_true rfl) fl_X12_25 dX12_init_55 ?_
  refine an_n (n' := 7) rfl ?_
  refine an_F (G := mdZ cy [.int 0, .null, .null, .null, .ref (a + 1), .ref (a + 2), .ref (a + 3), .ref (a + 4), .ref (a + 5), .ref (a + 6), .null, .int 0, .null, .int 0, .int 0, .int 0, .int 0, .int 0, .int 0, .int 0, .null, .null, .null, .null, .null, .null, .null, .null, .null, .null, .null, .null, .null, .null, .null, .null, .null, .null, .null, .null, .null, .null, .null, .null, .null, .null, .null, .int 0, .int 0, .int 0, .int 0, .int 0, .int 0, .int 0, .int 0, .int 0, .null, .null, .null, .null, .int 0, .int 0, .int 0, .null, .int 0, .null, .int 0, .int 0, .null, .null, .null, .null, .null, .null, .null, .null, .null, .null, .null, .null, .int 0, .int 0]) (fun p _ => md_step rfl rfl (by decide) p) ?_
  refine an_aload_n dX12_init_58 rfl ?_
  refine an_sipush (v := 5000) dX12_init_59 (by decide) ?_
  refine an_newaB (N := 5000) (by decide) (by decide) (by decide) ⟨Nat.le_of_ble_eq_true rfl, Nat.le_of_ble_eq_true rfl⟩ dX12_init_62 ?_
  refine an_put ingX12 tyX12_ok nmX12 (ci := 10) (k := 10) rfl (by decide) rfl rfl rfl rfl (q0 := 0) (by omega) rfl (Nat.le_of_ble_eq_true rfl) fl_X12_29 dX12_init_64 ?_
  refine an_n (n' := 8) rfl ?_
  refine an_F (G := mdZ cy [.int 0, .null, .null, .null, .ref (a + 1), .ref (a + 2), .ref (a + 3), .ref (a + 4), .ref (a + 5), .ref (a + 6), .ref (a + 7), .int 0, .null, .int 0, .int 0, .int 0, .int 0, .int 0, .int 0, .int 0, .null, .null, .null, .null, .null, .null, .null, .null, .null, .null, .null, .null, .null, .null, .null, .null, .null, .null, .null, .null, .null, .null, .null, .null, .null, .null, .null, .int 0, .int 0, .int 0, .int 0, .int 0, .int 0, .int 0, .int 0, .int 0, .null, .null, .null, .null, .int 0, .int 0, .int 0, .null, .int 0, .null, .int 0, .int 0, .null, .null, .null, .null, .null, .null, .null, .null, .null, .null, .null, .null, .int 0, .int 0]) (fun p _ => md_step rfl rfl (by decide) p) ?_
  refine an_aload_n dX12_init_67 rfl ?_
  refine an_sipush (v := 5000) dX12_init_68 (by decide) ?_
  refine an_newaB (N := 5000) (by decide) (by decide) (by decide) ⟨Nat.le_of_ble_eq_true rfl, Nat.le_of_ble_eq_true rfl⟩ dX12_init_71 ?_
  refine an_put ingX12 tyX12_ok nmX12 (ci := 10) (k := 12) rfl (by decide) rfl rfl rfl rfl (q0 := 0) (by omega) rfl (Nat.le_of_ble_eq_true rfl) fl_X12_33 dX12_init_73 ?_
  refine an_n (n' := 9) rfl ?_
  refine an_F (G := mdZ cy [.int 0, .null, .null, .null, .ref (a + 1), .ref (a + 2), .ref (a + 3), .ref (a + 4), .ref (a + 5), .ref (a + 6), .ref (a + 7), .int 0, .ref (a + 8), .int 0, .int 0, .int 0, .int 0, .int 0, .int 0, .int 0, .null, .null, .null, .null, .null, .null, .null, .null, .null, .null, .null, .null, .null, .null, .null, .null, .null, .null, .null, .null, .null, .null, .null, .null, .null, .null, .null, .int 0, .int 0, .int 0, .int 0, .int 0, .int 0, .int 0, .int 0, .int 0, .null, .null, .null, .null, .int 0, .int 0, .int 0, .null, .int 0, .null, .int 0, .int 0, .null, .null, .null, .null, .null, .null, .null, .null, .null, .null, .null, .null, .int 0, .int 0]) (fun p _ => md_step rfl rfl (by decide) p) ?_
  refine an_aload_n dX12_init_76 rfl ?_
  refine an_iconst (v := -1) dX12_init_77 (by decide) ?_
  refine an_put ingX12 tyX12_ok nmX12 (ci := 10) (k := 16) rfl (by decide) rfl rfl (vp_nar_int _) rfl (q0 := 0) (by omega) rfl (Nat.le_of_ble_eq_true rfl) fl_X12_36 dX12_init_78 ?_
  refine an_F (G := mdZ cy [.int 0, .null, .null, .null, .ref (a + 1), .ref (a + 2), .ref (a + 3), .ref (a + 4), .ref (a + 5), .ref (a + 6), .ref (a + 7), .int 0, .ref (a + 8), .int 0, .int 0, .int 0, .int (-1), .int 0, .int 0, .int 0, .null, .null, .null, .null, .null, .null, .null, .null, .null, .null, .null, .null, .null, .null, .null, .null, .null, .null, .null, .null, .null, .null, .null, .null, .null, .null, .null, .int 0, .int 0, .int 0, .int 0, .int 0, .int 0, .int 0, .int 0, .int 0, .null, .null, .null, .null, .int 0, .int 0, .int 0, .null, .int 0, .null, .int 0, .int 0, .null, .null, .null, .null, .null, .null, .null, .null, .null, .null, .null, .null, .int 0, .int 0]) (fun p _ => md_put rfl p) ?_
  refine an_aload_n dX12_init_81 rfl ?_
  refine an_bipush (v := 8) dX12_init_82 (by decide) ?_
  refine an_newaI (N := 8) (by decide) (by decide) (by decide) ⟨Nat.le_of_ble_eq_true rfl, Nat.le_of_ble_eq_true rfl⟩ dX12_init_84 ?_
  refine an_put ingX12 tyX12_ok nmX12 (ci := 10) (k := 20) rfl (by decide) rfl rfl rfl rfl (q0 := 0) (by omega) rfl (Nat.le_of_ble_eq_true rfl) fl_X12_40 dX12_init_86 ?_
  refine an_n (n' := 10) rfl ?_
  refine an_F (G := mdZ cy [.int 0, .null, .null, .null, .ref (a + 1), .ref (a + 2), .ref (a + 3), .ref (a + 4), .ref (a + 5), .ref (a + 6), .ref (a + 7), .int 0, .ref (a + 8), .int 0, .int 0, .int 0, .int (-1), .int 0, .int 0, .int 0, .ref (a + 9), .null, .null, .null, .null, .null, .null, .null, .null, .null, .null, .null, .null, .null, .null, .null, .null, .null, .null, .null, .null, .null, .null, .null, .null, .null, .null, .int 0, .int 0, .int 0, .int 0, .int 0, .int 0, .int 0, .int 0, .int 0, .null, .null, .null, .null, .int 0, .int 0, .int 0, .null, .int 0, .null, .int 0, .int 0, .null, .null, .null, .null, .null, .null, .null, .null, .null, .null, .null, .null, .int 0, .int 0]) (fun p _ => md_step rfl rfl (by decide) p) ?_
  refine an_aload_n dX12_init_89 rfl ?_
  refine an_bipush (v := 8) dX12_init_90 (by decide) ?_
  refine an_newaI (N := 8) (by decide) (by decide) (by decide) ⟨Nat.le_of_ble_eq_true rfl, Nat.le_of_ble_eq_true rfl⟩ dX12_init_92 ?_
  refine an_put ingX12 tyX12_ok nmX12 (ci := 10) (k := 21) rfl (by decide) rfl rfl rfl rfl (q0 := 0) (by omega) rfl (Nat.le_of_ble_eq_true rfl) fl_X12_43 dX12_init_94 ?_
  refine an_n (n' := 11) rfl ?_
  refine an_F (G := mdZ cy [.int 0, .null, .null, .null, .ref (a + 1), .ref (a + 2), .ref (a + 3), .ref (a + 4), .ref (a + 5), .ref (a + 6), .ref (a + 7), .int 0, .ref (a + 8), .int 0, .int 0, .int 0, .int (-1), .int 0, .int 0, .int 0, .ref (a + 9), .ref (a + 10), .null, .null, .null, .null, .null, .null, .null, .null, .null, .null, .null, .null, .null, .null, .null, .null, .null, .null, .null, .null, .null, .null, .null, .null, .null, .int 0, .int 0, .int 0, .int 0, .int 0, .int 0, .int 0, .int 0, .int 0, .null, .null, .null, .null, .int 0, .int 0, .int 0, .null, .int 0, .null, .int 0, .int 0, .null, .null, .null, .null, .null, .null, .null, .null, .null, .null, .null, .null, .int 0, .int 0]) (fun p _ => md_step rfl rfl (by decide) p) ?_
  refine an_aload_n dX12_init_97 rfl ?_
  refine an_bipush (v := 8) dX12_init_98 (by decide) ?_
  refine an_newaI (N := 8) (by decide) (by decide) (by decide) ⟨Nat.le_of_ble_eq_true rfl, Nat.le_of_ble_eq_true rfl⟩ dX12_init_100 ?_
  refine an_put ingX12 tyX12_ok nmX12 (ci := 10) (k := 22) rfl (by decide) rfl rfl rfl rfl (q0 := 0) (by omega) rfl (Nat.le_of_ble_eq_true rfl) fl_X12_46 dX12_init_102 ?_
  refine an_n (n' := 12) rfl ?_
  refine an_F (G := mdZ cy [.int 0, .null, .null, .null, .ref (a + 1), .ref (a + 2), .ref (a + 3), .ref (a + 4), .ref (a + 5), .ref (a + 6), .ref (a + 7), .int 0, .ref (a + 8), .int 0, .int 0, .int 0, .int (-1), .int 0, .int 0, .int 0, .ref (a + 9), .ref (a + 10), .ref (a + 11), .null, .null, .null, .null, .null, .null, .null, .null, .null, .null, .null, .null, .null, .null, .null, .null, .null, .null, .null, .null, .null, .null, .null, .null, .int 0, .int 0, .int 0, .int 0, .int 0, .int 0, .int 0, .int 0, .int 0, .null, .null, .null, .null, .int 0, .int 0, .int 0, .null, .int 0, .null, .int 0, .int 0, .null, .null, .null, .null, .null, .null, .null, .null, .null, .null, .null, .null, .int 0, .int 0]) (fun p _ => md_step rfl rfl (by decide) p) ?_
  refine an_aload_n dX12_init_105 rfl ?_
  refine an_bipush (v := 8) dX12_init_106 (by decide) ?_
  refine an_newaI (N := 8) (by decide) (by decide) (by decide) ⟨Nat.le_of_ble_eq_true rfl, Nat.le_of_ble_eq_true rfl⟩ dX12_init_108 ?_
  refine an_put ingX12 tyX12_ok nmX12 (ci := 10) (k := 23) rfl (by decide) rfl rfl rfl rfl (q0 := 0) (by omega) rfl (Nat.le_of_ble_eq_true rfl) fl_X12_49 dX12_init_110 ?_
  refine an_n (n' := 13) rfl ?_
  refine an_F (G := mdZ cy [.int 0, .null, .null, .null, .ref (a + 1), .ref (a + 2), .ref (a + 3), .ref (a + 4), .ref (a + 5), .ref (a + 6), .ref (a + 7), .int 0, .ref (a + 8), .int 0, .int 0, .int 0, .int (-1), .int 0, .int 0, .int 0, .ref (a + 9), .ref (a + 10), .ref (a + 11), .ref (a + 12), .null, .null, .null, .null, .null, .null, .null, .null, .null, .null, .null, .null, .null, .null, .null, .null, .null, .null, .null, .null, .null, .null, .null, .int 0, .int 0, .int 0, .int 0, .int 0, .int 0, .int 0, .int 0, .int 0, .null, .null, .null, .null, .int 0, .int 0, .int 0, .null, .int 0, .null, .int 0, .int 0, .null, .null, .null, .null, .null, .null, .null, .null, .null, .null, .null, .null, .int 0, .int 0]) (fun p _ => md_step rfl rfl (by decide) p) ?_
  refine an_aload_n dX12_init_113 rfl ?_
  refine an_bipush (v := 8) dX12_init_114 (by decide) ?_
  refine an_newaI (N := 8) (by decide) (by decide) (by decide) ⟨Nat.le_of_ble_eq_true rfl, Nat.le_of_ble_eq_true rfl⟩ dX12_init_116 ?_
  refine an_put ingX12 tyX12_ok nmX12 (ci := 10) (k := 24) rfl (by decide) rfl rfl rfl rfl (q0 := 0) (by omega) rfl (Nat.le_of_ble_eq_true rfl) fl_X12_52 dX12_init_118 ?_
  refine an_n (n' := 14) rfl ?_
  refine an_F (G := mdZ cy [.int 0, .null, .null, .null, .ref (a + 1), .ref (a + 2), .ref (a + 3), .ref (a + 4), .ref (a + 5), .ref (a + 6), .ref (a + 7), .int 0, .ref (a + 8), .int 0, .int 0, .int 0, .int (-1), .int 0, .int 0, .int 0, .ref (a + 9), .ref (a + 10), .ref (a + 11), .ref (a + 12), .ref (a + 13), .null, .null, .null, .null, .null, .null, .null, .null, .null, .null, .null, .null, .null, .null, .null, .null, .null, .null, .null, .null, .null, .null, .int 0, .int 0, .int 0, .int 0, .int 0, .int 0, .int 0, .int 0, .int 0, .null, .null, .null, .null, .int 0, .int 0, .int 0, .null, .int 0, .null, .int 0, .int 0, .null, .null, .null, .null, .null, .null, .null, .null, .null, .null, .null, .null, .int 0, .int 0]) (fun p _ => md_step rfl rfl (by decide) p) ?_
  refine an_aload_n dX12_init_121 rfl ?_
  refine an_bipush (v := 64) dX12_init_122 (by decide) ?_
  refine an_newaI (N := 64) (by decide) (by decide) (by decide) ⟨Nat.le_of_ble_eq_true rfl, Nat.le_of_ble_eq_true rfl⟩ dX12_init_124 ?_
  refine an_put ingX12 tyX12_ok nmX12 (ci := 10) (k := 25) rfl (by decide) rfl rfl rfl rfl (q0 := 0) (by omega) rfl (Nat.le_of_ble_eq_true rfl) fl_X12_55 dX12_init_126 ?_
  refine an_n (n' := 15) rfl ?_
  refine an_F (G := mdZ cy [.int 0, .null, .null, .null, .ref (a + 1), .ref (a + 2), .ref (a + 3), .ref (a + 4), .ref (a + 5), .ref (a + 6), .ref (a + 7), .int 0, .ref (a + 8), .int 0, .int 0, .int 0, .int (-1), .int 0, .int 0, .int 0, .ref (a + 9), .ref (a + 10), .ref (a + 11), .ref (a + 12), .ref (a + 13), .ref (a + 14), .null, .null, .null, .null, .null, .null, .null, .null, .null, .null, .null, .null, .null, .null, .null, .null, .null, .null, .null, .null, .null, .int 0, .int 0, .int 0, .int 0, .int 0, .int 0, .int 0, .int 0, .int 0, .null, .null, .null, .null, .int 0, .int 0, .int 0, .null, .int 0, .null, .int 0, .int 0, .null, .null, .null, .null, .null, .null, .null, .null, .null, .null, .null, .null, .int 0, .int 0]) (fun p _ => md_step rfl rfl (by decide) p) ?_
  refine an_aload_n dX12_init_129 rfl ?_
  refine an_bipush (v := 64) dX12_init_130 (by decide) ?_
  refine an_newaI (N := 64) (by decide) (by decide) (by decide) ⟨Nat.le_of_ble_eq_true rfl, Nat.le_of_ble_eq_true rfl⟩ dX12_init_132 ?_
  refine an_put ingX12 tyX12_ok nmX12 (ci := 10) (k := 26) rfl (by decide) rfl rfl rfl rfl (q0 := 0) (by omega) rfl (Nat.le_of_ble_eq_true rfl) fl_X12_58 dX12_init_134 ?_
  refine an_n (n' := 16) rfl ?_
  refine an_F (G := mdZ cy [.int 0, .null, .null, .null, .ref (a + 1), .ref (a + 2), .ref (a + 3), .ref (a + 4), .ref (a + 5), .ref (a + 6), .ref (a + 7), .int 0, .ref (a + 8), .int 0, .int 0, .int 0, .int (-1), .int 0, .int 0, .int 0, .ref (a + 9), .ref (a + 10), .ref (a + 11), .ref (a + 12), .ref (a + 13), .ref (a + 14), .ref (a + 15), .null, .null, .null, .null, .null, .null, .null, .null, .null, .null, .null, .null, .null, .null, .null, .null, .null, .null, .null, .null, .int 0, .int 0, .int 0, .int 0, .int 0, .int 0, .int 0, .int 0, .int 0, .null, .null, .null, .null, .int 0, .int 0, .int 0, .null, .int 0, .null, .int 0, .int 0, .null, .null, .null, .null, .null, .null, .null, .null, .null, .null, .null, .null, .int 0, .int 0]) (fun p _ => md_step rfl rfl (by decide) p) ?_
  refine an_aload_n dX12_init_137 rfl ?_
  refine an_bipush (v := 6) dX12_init_138 (by decide) ?_
  refine an_newaI (N := 6) (by decide) (by decide) (by decide) ⟨Nat.le_of_ble_eq_true rfl, Nat.le_of_ble_eq_true rfl⟩ dX12_init_140 ?_
  refine an_put ingX12 tyX12_ok nmX12 (ci := 10) (k := 27) rfl (by decide) rfl rfl rfl rfl (q0 := 0) (by omega) rfl (Nat.le_of_ble_eq_true rfl) fl_X12_61 dX12_init_142 ?_
  refine an_n (n' := 17) rfl ?_
  refine an_F (G := mdZ cy [.int 0, .null, .null, .null, .ref (a + 1), .ref (a + 2), .ref (a + 3), .ref (a + 4), .ref (a + 5), .ref (a + 6), .ref (a + 7), .int 0, .ref (a + 8), .int 0, .int 0, .int 0, .int (-1), .int 0, .int 0, .int 0, .ref (a + 9), .ref (a + 10), .ref (a + 11), .ref (a + 12), .ref (a + 13), .ref (a + 14), .ref (a + 15), .ref (a + 16), .null, .null, .null, .null, .null, .null, .null, .null, .null, .null, .null, .null, .null, .null, .null, .null, .null, .null, .null, .int 0, .int 0, .int 0, .int 0, .int 0, .int 0, .int 0, .int 0, .int 0, .null, .null, .null, .null, .int 0, .int 0, .int 0, .null, .int 0, .null, .int 0, .int 0, .null, .null, .null, .null, .null, .null, .null, .null, .null, .null, .null, .null, .int 0, .int 0]) (fun p _ => md_step rfl rfl (by decide) p) ?_
  refine an_aload_n dX12_init_145 rfl ?_
  refine an_bipush (v := 6) dX12_init_146 (by decide) ?_
  refine an_newaI (N := 6) (by decide) (by decide) (by decide) ⟨Nat.le_of_ble_eq_true rfl, Nat.le_of_ble_eq_true rfl⟩ dX12_init_148 ?_
  refine an_put ingX12 tyX12_ok nmX12 (ci := 10) (k := 28) rfl (by decide) rfl rfl rfl rfl (q0 := 0) (by omega) rfl (Nat.le_of_ble_eq_true rfl) fl_X12_64 dX12_init_150 ?_
  refine an_n (n' := 18) rfl ?_
  refine an_F (G := mdZ cy [.int 0, .null, .null, .null, .ref (a + 1), .ref (a + 2), .ref (a + 3), .ref (a + 4), .ref (a + 5), .ref (a + 6), .ref (a + 7), .int 0, .ref (a + 8), .int 0, .int 0, .int 0, .int (-1), .int 0, .int 0, .int 0, .ref (a + 9), .ref (a + 10), .ref (a + 11), .ref (a + 12), .ref (a + 13), .ref (a + 14), .ref (a + 15), .ref (a + 16), .ref (a + 17), .null, .null, .null, .null, .null, .null, .null, .null, .null, .null, .null, .null, .null, .null, .null, .null, .null, .null, .int 0, .int 0, .int 0, .int 0, .int 0, .int 0, .int 0, .int 0, .int 0, .null, .null, .null, .null, .int 0, .int 0, .int 0, .null, .int 0, .null, .int 0, .int 0, .null, .null, .null, .null, .null, .null, .null, .null, .null, .null, .null, .null, .int 0, .int 0]) (fun p _ => md_step rfl rfl (by decide) p) ?_
  refine an_aload_n dX12_init_153 rfl ?_
  refine an_bipush (v := 6) dX12_init_154 (by decide) ?_
  refine an_newaI (N := 6) (by decide) (by decide) (by decide) ⟨Nat.le_of_ble_eq_true rfl, Nat.le_of_ble_eq_true rfl⟩ dX12_init_156 ?_
  refine an_put ingX12 tyX12_ok nmX12 (ci := 10) (k := 29) rfl (by decide) rfl rfl rfl rfl (q0 := 0) (by omega) rfl (Nat.le_of_ble_eq_true rfl) fl_X12_67 dX12_init_158 ?_
  refine an_n (n' := 19) rfl ?_
  refine an_F (G := mdZ cy [.int 0, .null, .null, .null, .ref (a + 1), .ref (a + 2), .ref (a + 3), .ref (a + 4), .ref (a + 5), .ref (a + 6), .ref (a + 7), .int 0, .ref (a + 8), .int 0, .int 0, .int 0, .int (-1), .int 0, .int 0, .int 0, .ref (a + 9), .ref (a + 10), .ref (a + 11), .ref (a + 12), .ref (a + 13), .ref (a + 14), .ref (a + 15), .ref (a + 16), .ref (a + 17), .ref (a + 18), .null, .null, .null, .null, .null, .null, .null, .null, .null, .null, .null, .null, .null, .null, .null, .null, .null, .int 0, .int 0, .int 0, .int 0, .int 0, .int 0, .int 0, .int 0, .int 0, .null, .null, .null, .null, .int 0, .int 0, .int 0, .null, .int 0, .null, .int 0, .int 0, .null, .null, .null, .null, .null, .null, .null, .null, .null, .null, .null, .null, .int 0, .int 0]) (fun p _ => md_step rfl rfl (by decide) p) ?_
  refine an_aload_n dX12_init_161 rfl ?_
  refine an_bipush (v := 6) dX12_init_162 (by decide) ?_
  refine an_newaI (N := 6) (by decide) (by decide) (by decide) ⟨Nat.le_of_ble_eq_true rfl, Nat.le_of_ble_eq_true rfl⟩ dX12_init_164 ?_
  refine an_put ingX12 tyX12_ok nmX12 (ci := 10) (k := 30) rfl (by decide) rfl rfl rfl rfl (q0 := 0) (by omega) rfl (Nat.le_of_ble_eq_true rfl) fl_X12_70 dX12_init_166 ?_
  refine an_n (n' := 20) rfl ?_
  refine an_F (G := mdZ cy [.int 0, .null, .null, .null, .ref (a + 1), .ref (a + 2), .ref (a + 3), .ref (a + 4), .ref (a + 5), .ref (a + 6), .ref (a + 7), .int 0, .ref (a + 8), .int 0, .int 0, .int 0, .int (-1), .int 0, .int 0, .int 0, .ref (a + 9), .ref (a + 10), .ref (a + 11), .ref (a + 12), .ref (a + 13), .ref (a + 14), .ref (a + 15), .ref (a + 16), .ref (a + 17), .ref (a + 18), .ref (a + 19), .null, .null, .null, .null, .null, .null, .null, .null, .null, .null, .null, .null, .null, .null, .null, .null, .int 0, .int 0, .int 0, .int 0, .int 0, .int 0, .int 0, .int 0, .int 0, .null, .null, .null, .null, .int 0, .int 0, .int 0, .null, .int 0, .null, .int 0, .int 0, .null, .null, .null, .null, .null, .null, .null, .null, .null, .null, .null, .null, .int 0, .int 0]) (fun p _ => md_step rfl rfl (by decide) p) ?_
  refine an_aload_n dX12_init_169 rfl ?_
  refine an_bipush (v := 6) dX12_init_170 (by decide) ?_
  refine an_newaI (N := 6) (by decide) (by decide) (by decide) ⟨Nat.le_of_ble_eq_true rfl, Nat.le_of_ble_eq_true rfl⟩ dX12_init_172 ?_
  refine an_put ingX12 tyX12_ok nmX12 (ci := 10) (k := 31) rfl (by decide) rfl rfl rfl rfl (q0 := 0) (by omega) rfl (Nat.le_of_ble_eq_true rfl) fl_X12_73 dX12_init_174 ?_
  refine an_n (n' := 21) rfl ?_
  refine an_F (G := mdZ cy [.int 0, .null, .null, .null, .ref (a + 1), .ref (a + 2), .ref (a + 3), .ref (a + 4), .ref (a + 5), .ref (a + 6), .ref (a + 7), .int 0, .ref (a + 8), .int 0, .int 0, .int 0, .int (-1), .int 0, .int 0, .int 0, .ref (a + 9), .ref (a + 10), .ref (a + 11), .ref (a + 12), .ref (a + 13), .ref (a + 14), .ref (a + 15), .ref (a + 16), .ref (a + 17), .ref (a + 18), .ref (a + 19), .ref (a + 20), .null, .null, .null, .null, .null, .null, .null, .null, .null, .null, .null, .null, .null, .null, .null, .int 0, .int 0, .int 0, .int 0, .int 0, .int 0, .int 0, .int 0, .int 0, .null, .null, .null, .null, .int 0, .int 0, .int 0, .null, .int 0, .null, .int 0, .int 0, .null, .null, .null, .null, .null, .null, .null, .null, .null, .null, .null, .null, .int 0, .int 0]) (fun p _ => md_step rfl rfl (by decide) p) ?_
  refine an_aload_n dX12_init_177 rfl ?_
  refine an_bipush (v := 6) dX12_init_178 (by decide) ?_
  refine an_newaZ (N := 6) (by decide) (by decide) (by decide) ⟨Nat.le_of_ble_eq_true rfl, Nat.le_of_ble_eq_true rfl⟩ dX12_init_180 ?_
  refine an_put ingX12 tyX12_ok nmX12 (ci := 10) (k := 32) rfl (by decide) rfl rfl rfl rfl (q0 := 0) (by omega) rfl (Nat.le_of_ble_eq_true rfl) fl_X12_76 dX12_init_182 ?_
  refine an_n (n' := 22) rfl ?_
  refine an_F (G := mdZ cy [.int 0, .null, .null, .null, .ref (a + 1), .ref (a + 2), .ref (a + 3), .ref (a + 4), .ref (a + 5), .ref (a + 6), .ref (a + 7), .int 0, .ref (a + 8), .int 0, .int 0, .int 0, .int (-1), .int 0, .int 0, .int 0, .ref (a + 9), .ref (a + 10), .ref (a + 11), .ref (a + 12), .ref (a + 13), .ref (a + 14), .ref (a + 15), .ref (a + 16), .ref (a + 17), .ref (a + 18), .ref (a + 19), .ref (a + 20), .ref (a + 21), .null, .null, .null, .null, .null, .null, .null, .null, .null, .null, .null, .null, .null, .null, .int 0, .int 0, .int 0, .int 0, .int 0, .int 0, .int 0, .int 0, .int 0, .null, .null, .null, .null, .int 0, .int 0, .int 0, .null, .int 0, .null, .int 0, .int 0, .null, .null, .null, .null, .null, .null, .null, .null, .null, .null, .null, .null, .int 0, .int 0]) (fun p _ => md_step rfl rfl (by decide) p) ?_
  refine an_aload_n dX12_init_185 rfl ?_
  refine an_bipush (v := 6) dX12_init_186 (by decide) ?_
  refine an_newaI (N := 6) (by decide) (by decide) (by decide) ⟨Nat.le_of_ble_eq_true rfl, Nat.le_of_ble_eq_true rfl⟩ dX12_init_188 ?_
  refine an_put ingX12 tyX12_ok nmX12 (ci := 10) (k := 33) rfl (by decide) rfl rfl rfl rfl (q0 := 0) (by omega) rfl (Nat.le_of_ble_eq_true rfl) fl_X12_79 dX12_init_190 ?_
  refine an_n (n' := 23) rfl ?_
  refine an_F (G := mdZ cy [.int 0, .null, .null, .null, .ref (a + 1), .ref (a + 2), .ref (a + 3), .ref (a + 4), .ref (a + 5), .ref (a + 6), .ref (a + 7), .int 0, .ref (a + 8), .int 0, .int 0, .int 0, .int (-1), .int 0, .int 0, .int 0, .ref (a + 9), .ref (a + 10), .ref (a + 11), .ref (a + 12), .ref (a + 13), .ref (a + 14), .ref (a + 15), .ref (a + 16), .ref (a + 17), .ref (a + 18), .ref (a + 19), .ref (a + 20), .ref (a + 21), .ref (a + 22), .null, .null, .null, .null, .null, .null, .null, .null, .null, .null, .null, .null, .null, .int 0, .int 0, .int 0, .int 0, .int 0, .int 0, .int 0, .int 0, .int 0, .null, .null, .null, .null, .int 0, .int 0, .int 0, .null, .int 0, .null, .int 0, .int 0, .null, .null, .null, .null, .null, .null, .null, .null, .null, .null, .null, .null, .int 0, .int 0]) (fun p _ => md_step rfl rfl (by decide) p) ?_
  refine an_aload_n dX12_init_193 rfl ?_
  refine an_bipush (v := 6) dX12_init_194 (by decide) ?_
  refine an_newaI (N := 6) (by decide) (by decide) (by decide) ⟨Nat.le_of_ble_eq_true rfl, Nat.le_of_ble_eq_true rfl⟩ dX12_init_196 ?_
  refine an_put ingX12 tyX12_ok nmX12 (ci := 10) (k := 34) rfl (by decide) rfl rfl rfl rfl (q0 := 0) (by omega) rfl (Nat.le_of_ble_eq_true rfl) fl_X12_82 dX12_init_198 ?_
  refine an_n (n' := 24) rfl ?_
  refine an_F (G := mdZ cy [.int 0, .null, .null, .null, .ref (a + 1), .ref (a + 2), .ref (a + 3), .ref (a + 4), .ref (a + 5), .ref (a + 6), .ref (a + 7), .int 0, .ref (a + 8), .int 0, .int 0, .int 0, .int (-1), .int 0, .int 0, .int 0, .ref (a + 9), .ref (a + 10), .ref (a + 11), .ref (a + 12), .ref (a + 13), .ref (a + 14), .ref (a + 15), .ref (a + 16), .ref (a + 17), .ref (a + 18), .ref (a + 19), .ref (a + 20), .ref (a + 21), .ref (a + 22), .ref (a + 23), .null, .null, .null, .null, .null, .null, .null, .null, .null, .null, .null, .null, .int 0, .int 0, .int 0, .int 0, .int 0, .int 0, .int 0, .int 0, .int 0, .null, .null, .null, .null, .int 0, .int 0, .int 0, .null, .int 0, .null, .int 0, .int 0, .null, .null, .null, .null, .null, .null, .null, .null, .null, .null, .null, .null, .int 0, .int 0]) (fun p _ => md_step rfl rfl (by decide) p) ?_
  refine an_aload_n dX12_init_201 rfl ?_
  refine an_bipush (v := 6) dX12_init_202 (by decide) ?_
  refine an_newaI (N := 6) (by decide) (by decide) (by decide) ⟨Nat.le_of_ble_eq_true rfl, Nat.le_of_ble_eq_true rfl⟩ dX12_init_204 ?_
  refine an_put ingX12 tyX12_ok nmX12 (ci := 10) (k := 35) rfl (by decide) rfl rfl rfl rfl (q0 := 0) (by omega) rfl (Nat.le_of_ble_eq_true rfl) fl_X12_85 dX12_init_206 ?_
  refine an_n (n' := 25) rfl ?_
  refine an_F (G := mdZ cy [.int 0, .null, .null, .null, .ref (a + 1), .ref (a + 2), .ref (a + 3), .ref (a + 4), .ref (a + 5), .ref (a + 6), .ref (a + 7), .int 0, .ref (a + 8), .int 0, .int 0, .int 0, .int (-1), .int 0, .int 0, .int 0, .ref (a + 9), .ref (a + 10), .ref (a + 11), .ref (a + 12), .ref (a + 13), .ref (a + 14), .ref (a + 15), .ref (a + 16), .ref (a + 17), .ref (a + 18), .ref (a + 19), .ref (a + 20), .ref (a + 21), .ref (a + 22), .ref (a + 23), .ref (a + 24), .null, .null, .null, .null, .null, .null, .null, .null, .null, .null, .null, .int 0, .int 0, .int 0, .int 0, .int 0, .int 0, .int 0, .int 0, .int 0, .null, .null, .null, .null, .int 0, .int 0, .int 0, .null, .int 0, .null, .int 0, .int 0, .null, .null, .null, .null, .null, .null, .null, .null, .null, .null, .null, .null, .int 0, .int 0]) (fun p _ => md_step rfl rfl (by decide) p) ?_
  refine an_aload_n dX12_init_209 rfl ?_
  refine an_bipush (v := 6) dX12_init_210 (by decide) ?_
  refine an_newaI (N := 6) (by decide) (by decide) (by decide) ⟨Nat.le_of_ble_eq_true rfl, Nat.le_of_ble_eq_true rfl⟩ dX12_init_212 ?_
  refine an_put ingX12 tyX12_ok nmX12 (ci := 10) (k := 36) rfl (by decide) rfl rfl rfl rfl (q0 := 0) (by omega) rfl (Nat.le_of_ble_eq_true rfl) fl_X12_88 dX12_init_214 ?_
  refine an_n (n' := 26) rfl ?_
  refine an_F (G := mdZ cy [.int 0, .null, .null, .null, .ref (a + 1), .ref (a + 2), .ref (a + 3), .ref (a + 4), .ref (a + 5), .ref (a + 6), .ref (a + 7), .int 0, .ref (a + 8), .int 0, .int 0, .int 0, .int (-1), .int 0, .int 0, .int 0, .ref (a + 9), .ref (a + 10), .ref (a + 11), .ref (a + 12), .ref (a + 13), .ref (a + 14), .ref (a + 15), .ref (a + 16), .ref (a + 17), .ref (a + 18), .ref (a + 19), .ref (a + 20), .ref (a + 21), .ref (a + 22), .ref (a + 23), .ref (a + 24), .ref (a + 25), .null, .null, .null, .null, .null, .null, .null, .null, .null, .null, .int 0, .int 0, .int 0, .int 0, .int 0, .int 0, .int 0, .int 0, .int 0, .null, .null, .null, .null, .int 0, .int 0, .int 0, .null, .int 0, .null, .int 0, .int 0, .null, .null, .null, .null, .null, .null, .null, .null, .null, .null, .null, .null, .int 0, .int 0]) (fun p _ => md_step rfl rfl (by decide) p) ?_
  refine an_aload_n dX12_init_217 rfl ?_
  refine an_bipush (v := 6) dX12_init_218 (by decide) ?_
  refine an_newaI (N := 6) (by decide) (by decide) (by decide) ⟨Nat.le_of_ble_eq_true rfl, Nat.le_of_ble_eq_true rfl⟩ dX12_init_220 ?_
  refine an_put ingX12 tyX12_ok nmX12 (ci := 10) (k := 37) rfl (by decide) rfl rfl rfl rfl (q0 := 0) (by omega) rfl (Nat.le_of_ble_eq_true rfl) fl_X12_91 dX12_init_222 ?_
  refine an_n (n' := 27) rfl ?_
  refine an_F (G := mdZ cy [.int 0, .null, .null, .null, .ref (a + 1), .ref (a + 2), .ref (a + 3), .ref (a + 4), .ref (a + 5), .ref (a + 6), .ref (a + 7), .int 0, .ref (a + 8), .int 0, .int 0, .int 0, .int (-1), .int 0, .int 0, .int 0, .ref (a + 9), .ref (a + 10), .ref (a + 11), .ref (a + 12), .ref (a + 13), .ref (a + 14), .ref (a + 15), .ref (a + 16), .ref (a + 17), .ref (a + 18), .ref (a + 19), .ref (a + 20), .ref (a + 21), .ref (a + 22), .ref (a + 23), .ref (a + 24), .ref (a + 25), .ref (a + 26), .null, .null, .null, .null, .null, .null, .null, .null, .null, .int 0, .int 0, .int 0, .int 0, .int 0, .int 0, .int 0, .int 0, .int 0, .null, .null, .null, .null, .int 0, .int 0, .int 0, .null, .int 0, .null, .int 0, .int 0, .null, .null, .null, .null, .null, .null, .null, .null, .null, .null, .null, .null, .int 0, .int 0]) (fun p _ => md_step rfl rfl (by decide) p) ?_
  refine an_aload_n dX12_init_225 rfl ?_
  refine an_bipush (v := 6) dX12_init_226 (by decide) ?_
  refine an_newaI (N := 6) (by decide) (by decide) (by decide) ⟨Nat.le_of_ble_eq_true rfl, Nat.le_of_ble_eq_true rfl⟩ dX12_init_228 ?_
  refine an_put ingX12 tyX12_ok nmX12 (ci := 10) (k := 38) rfl (by decide) rfl rfl rfl rfl (q0 := 0) (by omega) rfl (Nat.le_of_ble_eq_true rfl) fl_X12_94 dX12_init_230 ?_
  refine an_n (n' := 28) rfl ?_
  refine an_F (G := mdZ cy [.int 0, .null, .null, .null, .ref (a + 1), .ref (a + 2), .ref (a + 3), .ref (a + 4), .ref (a + 5), .ref (a + 6), .ref (a + 7), .int 0, .ref (a + 8), .int 0, .int 0, .int 0, .int (-1), .int 0, .int 0, .int 0, .ref (a + 9), .ref (a + 10), .ref (a + 11), .ref (a + 12), .ref (a + 13), .ref (a + 14), .ref (a + 15), .ref (a + 16), .ref (a + 17), .ref (a + 18), .ref (a + 19), .ref (a + 20), .ref (a + 21), .ref (a + 22), .ref (a + 23), .ref (a + 24), .ref (a + 25), .ref (a + 26), .ref (a + 27), .null, .null, .null, .null, .null, .null, .null, .null, .int 0, .int 0, .int 0, .int 0, .int 0, .int 0, .int 0, .int 0, .int 0, .null, .null, .null, .null, .int 0, .int 0, .int 0, .null, .int 0, .null, .int 0, .int 0, .null, .null, .null, .null, .null, .null, .null, .null, .null, .null, .null, .null, .int 0, .int 0]) (fun p _ => md_step rfl rfl (by decide) p) ?_
  refine an_aload_n dX12_init_233 rfl ?_
  refine an_bipush (v := 6) dX12_init_234 (by decide) ?_
  refine an_newaI (N := 6) (by decide) (by decide) (by decide) ⟨Nat.le_of_ble_eq_true rfl, Nat.le_of_ble_eq_true rfl⟩ dX12_init_236 ?_
  refine an_put ingX12 tyX12_ok nmX12 (ci := 10) (k := 39) rfl (by decide) rfl rfl rfl rfl (q0 := 0) (by omega) rfl (Nat.le_of_ble_eq_true rfl) fl_X12_97 dX12_init_238 ?_
  refine an_n (n' := 29) rfl ?_
  refine an_F (G := mdZ cy [.int 0, .null, .null, .null, .ref (a + 1), .ref (a + 2), .ref (a + 3), .ref (a + 4), .ref (a + 5), .ref (a + 6), .ref (a + 7), .int 0, .ref (a + 8), .int 0, .int 0, .int 0, .int (-1), .int 0, .int 0, .int 0, .ref (a + 9), .ref (a + 10), .ref (a + 11), .ref (a + 12), .ref (a + 13), .ref (a + 14), .ref (a + 15), .ref (a + 16), .ref (a + 17), .ref (a + 18), .ref (a + 19), .ref (a + 20), .ref (a + 21), .ref (a + 22), .ref (a + 23), .ref (a + 24), .ref (a + 25), .ref (a + 26), .ref (a + 27), .ref (a + 28), .null, .null, .null, .null, .null, .null, .null, .int 0, .int 0, .int 0, .int 0, .int 0, .int 0, .int 0, .int 0, .int 0, .null, .null, .null, .null, .int 0, .int 0, .int 0, .null, .int 0, .null, .int 0, .int 0, .null, .null, .null, .null, .null, .null, .null, .null, .null, .null, .null, .null, .int 0, .int 0]) (fun p _ => md_step rfl rfl (by decide) p) ?_
  refine an_aload_n dX12_init_241 rfl ?_
  refine an_bipush (v := 6) dX12_init_242 (by decide) ?_
  refine an_newaI (N := 6) (by decide) (by decide) (by decide) ⟨Nat.le_of_ble_eq_true rfl, Nat.le_of_ble_eq_true rfl⟩ dX12_init_244 ?_
  refine an_put ingX12 tyX12_ok nmX12 (ci := 10) (k := 40) rfl (by decide) rfl rfl rfl rfl (q0 := 0) (by omega) rfl (Nat.le_of_ble_eq_true rfl) fl_X12_100 dX12_init_246 ?_
  refine an_n (n' := 30) rfl ?_
  refine an_F (G := mdZ cy [.int 0, .null, .null, .null, .ref (a + 1), .ref (a + 2), .ref (a + 3), .ref (a + 4), .ref (a + 5), .ref (a + 6), .ref (a + 7), .int 0, .ref (a + 8), .int 0, .int 0, .int 0, .int (-1), .int 0, .int 0, .int 0, .ref (a + 9), .ref (a + 10), .ref (a + 11), .ref (a + 12), .ref (a + 13), .ref (a + 14), .ref (a + 15), .ref (a + 16), .ref (a + 17), .ref (a + 18), .ref (a + 19), .ref (a + 20), .ref (a + 21), .ref (a + 22), .ref (a + 23), .ref (a + 24), .ref (a + 25), .ref (a + 26), .ref (a + 27), .ref (a + 28), .ref (a + 29), .null, .null, .null, .null, .null, .null, .int 0, .int 0, .int 0, .int 0, .int 0, .int 0, .int 0, .int 0, .int 0, .null, .null, .null, .null, .int 0, .int 0, .int 0, .null, .int 0, .null, .int 0, .int 0, .null, .null, .null, .null, .null, .null, .null, .null, .null, .null, .null, .null, .int 0, .int 0]) (fun p _ => md_step rfl rfl (by decide) p) ?_
  refine an_aload_n dX12_init_249 rfl ?_
  refine an_bipush (v := 6) dX12_init_250 (by decide) ?_
  refine an_newaI (N := 6) (by decide) (by decide) (by decide) ⟨Nat.le_of_ble_eq_true rfl, Nat.le_of_ble_eq_true rfl⟩ dX12_init_252 ?_
  refine an_put ingX12 tyX12_ok nmX12 (ci := 10) (k := 41) rfl (by decide) rfl rfl rfl rfl (q0 := 0) (by omega) rfl (Nat.le_of_ble_eq_true rfl) fl_X12_103 dX12_init_254 ?_
  refine an_n (n' := 31) rfl ?_
  refine an_F (G := mdZ cy [.int 0, .null, .null, .null, .ref (a + 1), .ref (a + 2), .ref (a + 3), .ref (a + 4), .ref (a + 5), .ref (a + 6), .ref (a + 7), .int 0, .ref (a + 8), .int 0, .int 0, .int 0, .int (-1), .int 0, .int 0, .int 0, .ref (a + 9), .ref (a + 10), .ref (a + 11), .ref (a + 12), .ref (a + 13), .ref (a + 14), .ref (a + 15), .ref (a + 16), .ref (a + 17), .ref (a + 18), .ref (a + 19), .ref (a + 20), .ref (a + 21), .ref (a + 22), .ref (a + 23), .ref (a + 24), .ref (a + 25), .ref (a + 26), .ref (a + 27), .ref (a + 28), .ref (a + 29), .ref (a + 30), .null, .null, .null, .null, .null, .int 0, .int 0, .int 0, .int 0, .int 0, .int 0, .int 0, .int 0, .int 0, .null, .null, .null, .null, .int 0, .int 0, .int 0, .null, .int 0, .null, .int 0, .int 0, .null, .null, .null, .null, .null, .null, .null, .null, .null, .null, .null, .null, .int 0, .int 0]) (fun p _ => md_step rfl rfl (by decide) p) ?_
  refine an_aload_n dX12_init_257 rfl ?_
  refine an_bipush (v := 6) dX12_init_258 (by decide) ?_
  refine an_newaI (N := 6) (by decide) (by decide) (by decide) ⟨Nat.le_of_ble_eq_true rfl, Nat.le_of_ble_eq_true rfl⟩ dX12_init_260 ?_
  refine an_put ingX12 tyX12_ok nmX12 (ci := 10) (k := 42) rfl (by decide) rfl rfl rfl rfl (q0 := 0) (by omega) rfl (Nat.le_of_ble_eq_true rfl) fl_X12_106 dX12_init_262 ?_
  refine an_n (n' := 32) rfl ?_
  refine an_F (G := mdZ cy [.int 0, .null, .null, .null, .ref (a + 1), .ref (a + 2), .ref (a + 3), .ref (a + 4), .ref (a + 5), .ref (a + 6), .ref (a + 7), .int 0, .ref (a + 8), .int 0, .int 0, .int 0, .int (-1), .int 0, .int 0, .int 0, .ref (a + 9), .ref (a + 10), .ref (a + 11), .ref (a + 12), .ref (a + 13), .ref (a + 14), .ref (a + 15), .ref (a + 16), .ref (a + 17), .ref (a + 18), .ref (a + 19), .ref (a + 20), .ref (a + 21), .ref (a + 22), .ref (a + 23), .ref (a + 24), .ref (a + 25), .ref (a + 26), .ref (a + 27), .ref (a + 28), .ref (a + 29), .ref (a + 30), .ref (a + 31), .null, .null, .null, .null, .int 0, .int 0, .int 0, .int 0, .int 0, .int 0, .int 0, .int 0, .int 0, .null, .null, .null, .null, .int 0, .int 0, .int 0, .null, .int 0, .null, .int 0, .int 0, .null, .null, .null, .null, .null, .null, .null, .null, .null, .null, .null, .null, .int 0, .int 0]) (fun p _ => md_step rfl rfl (by decide) p) ?_
  refine an_aload_n dX12_init_265 rfl ?_
  refine an_bipush (v := 6) dX12_init_266 (by decide) ?_
  refine an_newaI (N := 6) (by decide) (by decide) (by decide) ⟨Nat.le_of_ble_eq_true rfl, Nat.le_of_ble_eq_true rfl⟩ dX12_init_268 ?_
  refine an_put ingX12 tyX12_ok nmX12 (ci := 10) (k := 43) rfl (by decide) rfl rfl rfl rfl (q0 := 0) (by omega) rfl (Nat.le_of_ble_eq_true rfl) fl_X12_109 dX12_init_270 ?_
  refine an_n (n' := 33) rfl ?_
  refine an_F (G := mdZ cy [.int 0, .null, .null, .null, .ref (a + 1), .ref (a + 2), .ref (a + 3), .ref (a + 4), .ref (a + 5), .ref (a + 6), .ref (a + 7), .int 0, .ref (a + 8), .int 0, .int 0, .int 0, .int (-1), .int 0, .int 0, .int 0, .ref (a + 9), .ref (a + 10), .ref (a + 11), .ref (a + 12), .ref (a + 13), .ref (a + 14), .ref (a + 15), .ref (a + 16), .ref (a + 17), .ref (a + 18), .ref (a + 19), .ref (a + 20), .ref (a + 21), .ref (a + 22), .ref (a + 23), .ref (a + 24), .ref (a + 25), .ref (a + 26), .ref (a + 27), .ref (a + 28), .ref (a + 29), .ref (a + 30), .ref (a + 31), .ref (a + 32), .null, .null, .null, .int 0, .int 0, .int 0, .int 0, .int 0, .int 0, .int 0, .int 0, .int 0, .null, .null, .null, .null, .int 0, .int 0, .int 0, .null, .int 0, .null, .int 0, .int 0, .null, .null, .null, .null, .null, .null, .null, .null, .null, .null, .null, .null, .int 0, .int 0]) (fun p _ => md_step rfl rfl (by decide) p) ?_
  refine an_aload_n dX12_init_273 rfl ?_
  refine an_bipush (v := 96) dX12_init_274 (by decide) ?_
  refine an_newaI (N := 96) (by decide) (by decide) (by decide) ⟨Nat.le_of_ble_eq_true rfl, Nat.le_of_ble_eq_true rfl⟩ dX12_init_276 ?_
  refine an_put ingX12 tyX12_ok nmX12 (ci := 10) (k := 44) rfl (by decide) rfl rfl rfl rfl (q0 := 0) (by omega) rfl (Nat.le_of_ble_eq_true rfl) fl_X12_112 dX12_init_278 ?_
  refine an_n (n' := 34) rfl ?_
  refine an_F (G := mdZ cy [.int 0, .null, .null, .null, .ref (a + 1), .ref (a + 2), .ref (a + 3), .ref (a + 4), .ref (a + 5), .ref (a + 6), .ref (a + 7), .int 0, .ref (a + 8), .int 0, .int 0, .int 0, .int (-1), .int 0, .int 0, .int 0, .ref (a + 9), .ref (a + 10), .ref (a + 11), .ref (a + 12), .ref (a + 13), .ref (a + 14), .ref (a + 15), .ref (a + 16), .ref (a + 17), .ref (a + 18), .ref (a + 19), .ref (a + 20), .ref (a + 21), .ref (a + 22), .ref (a + 23), .ref (a + 24), .ref (a + 25), .ref (a + 26), .ref (a + 27), .ref (a + 28), .ref (a + 29), .ref (a + 30), .ref (a + 31), .ref (a + 32), .ref (a + 33), .null, .null, .int 0, .int 0, .int 0, .int 0, .int 0, .int 0, .int 0, .int 0, .int 0, .null, .null, .null, .null, .int 0, .int 0, .int 0, .null, .int 0, .null, .int 0, .int 0, .null, .null, .null, .null, .null, .null, .null, .null, .null, .null, .null, .null, .int 0, .int 0]) (fun p _ => md_step rfl rfl (by decide) p) ?_
  refine an_aload_n dX12_init_281 rfl ?_
  refine an_bipush (v := 96) dX12_init_282 (by decide) ?_
  refine an_newaZ (N := 96) (by decide) (by decide) (by decide) ⟨Nat.le_of_ble_eq_true rfl, Nat.le_of_ble_eq_true rfl⟩ dX12_init_284 ?_
  refine an_put ingX12 tyX12_ok nmX12 (ci := 10) (k := 45) rfl (by decide) rfl rfl rfl rfl (q0 := 0) (by omega) rfl (Nat.le_of_ble_eq_true rfl) fl_X12_115 dX12_init_286 ?_
  refine an_n (n' := 35) rfl ?_
  refine an_F (G := mdZ cy [.int 0, .null, .null, .null, .ref (a + 1), .ref (a + 2), .ref (a + 3), .ref (a + 4), .ref (a + 5), .ref (a + 6), .ref (a + 7), .int 0, .ref (a + 8), .int 0, .int 0, .int 0, .int (-1), .int 0, .int 0, .int 0, .ref (a + 9), .ref (a + 10), .ref (a + 11), .ref (a + 12), .ref (a + 13), .ref (a + 14), .ref (a + 15), .ref (a + 16), .ref (a + 17), .ref (a + 18), .ref (a + 19), .ref (a + 20), .ref (a + 21), .ref (a + 22), .ref (a + 23), .ref (a + 24), .ref (a + 25), .ref (a + 26), .ref (a + 27), .ref (a + 28), .ref (a + 29), .ref (a + 30), .ref (a + 31), .ref (a + 32), .ref (a + 33), .ref (a + 34), .null, .int 0, .int 0, .int 0, .int 0, .int 0, .int 0, .int 0, .int 0, .int 0, .null, .null, .null, .null, .int 0, .int 0, .int 0, .null, .int 0, .null, .int 0, .int 0, .null, .null, .null, .null, .null, .null, .null, .null, .null, .null, .null, .null, .int 0, .int 0]) (fun p _ => md_step rfl rfl (by decide) p) ?_
  refine an_aload_n dX12_init_289 rfl ?_
  refine an_bipush (v := 96) dX12_init_290 (by decide) ?_
  refine an_newaI (N := 96) (by decide) (by decide) (by decide) ⟨Nat.le_of_ble_eq_true rfl, Nat.le_of_ble_eq_true rfl⟩ dX12_init_292 ?_
  refine an_put ingX12 tyX12_ok nmX12 (ci := 10) (k := 46) rfl (by decide) rfl rfl rfl rfl (q0 := 0) (by omega) rfl (Nat.le_of_ble_eq_true rfl) fl_X12_118 dX12_init_294 ?_
  refine an_n (n' := 36) rfl ?_
  refine an_F (G := mdZ cy [.int 0, .null, .null, .null, .ref (a + 1), .ref (a + 2), .ref (a + 3), .ref (a + 4), .ref (a + 5), .ref (a + 6), .ref (a + 7), .int 0, .ref (a + 8), .int 0, .int 0, .int 0, .int (-1), .int 0, .int 0, .int 0, .ref (a + 9), .ref (a + 10), .ref (a + 11), .ref (a + 12), .ref (a + 13), .ref (a + 14), .ref (a + 15), .ref (a + 16), .ref (a + 17), .ref (a + 18), .ref (a + 19), .ref (a + 20), .ref (a + 21), .ref (a + 22), .ref (a + 23), .ref (a + 24), .ref (a + 25), .ref (a + 26), .ref (a + 27), .ref (a + 28), .ref (a + 29), .ref (a + 30), .ref (a + 31), .ref (a + 32), .ref (a + 33), .ref (a + 34), .ref (a + 35), .int 0, .int 0, .int 0, .int 0, .int 0, .int 0, .int 0, .int 0, .int 0, .null, .null, .null, .null, .int 0, .int 0, .int 0, .null, .int 0, .null, .int 0, .int 0, .null, .null, .null, .null, .null, .null, .null, .null, .null, .null, .null, .null, .int 0, .int 0]) (fun p _ => md_step rfl rfl (by decide) p) ?_
  refine an_aload_n dX12_init_297 rfl ?_
  refine an_sipush (v := 2049) dX12_init_298 (by decide) ?_
  refine an_newaI (N := 2049) (by decide) (by decide) (by decide) ⟨Nat.le_of_ble_eq_true rfl, Nat.le_of_ble_eq_true rfl⟩ dX12_init_301 ?_
  refine an_put ingX12 tyX12_ok nmX12 (ci := 10) (k := 56) rfl (by decide) rfl rfl rfl rfl (q0 := 0) (by omega) rfl (Nat.le_of_ble_eq_true rfl) fl_X12_121 dX12_init_303 ?_
  refine an_n (n' := 37) rfl ?_
  refine an_F (G := mdZ cy [.int 0, .null, .null, .null, .ref (a + 1), .ref (a + 2), .ref (a + 3), .ref (a + 4), .ref (a + 5), .ref (a + 6), .ref (a + 7), .int 0, .ref (a + 8), .int 0, .int 0, .int 0, .int (-1), .int 0, .int 0, .int 0, .ref (a + 9), .ref (a + 10), .ref (a + 11), .ref (a + 12), .ref (a + 13), .ref (a + 14), .ref (a + 15), .ref (a + 16), .ref (a + 17), .ref (a + 18), .ref (a + 19), .ref (a + 20), .ref (a + 21), .ref (a + 22), .ref (a + 23), .ref (a + 24), .ref (a + 25), .ref (a + 26), .ref (a + 27), .ref (a + 28), .ref (a + 29), .ref (a + 30), .ref (a + 31), .ref (a + 32), .ref (a + 33), .ref (a + 34), .ref (a + 35), .int 0, .int 0, .int 0, .int 0, .int 0, .int 0, .int 0, .int 0, .int 0, .ref (a + 36), .null, .null, .null, .int 0, .int 0, .int 0, .null, .int 0, .null, .int 0, .int 0, .null, .null, .null, .null, .null, .null, .null, .null, .null, .null, .null, .null, .int 0, .int 0]) (fun p _ => md_step rfl rfl (by decide) p) ?_
  refine an_aload_n dX12_init_306 rfl ?_
  refine an_sipush (v := 2049) dX12_init_307 (by decide) ?_
  refine an_newaI (N := 2049) (by decide) (by decide) (by decide) ⟨Nat.le_of_ble_eq_true rfl, Nat.le_of_ble_eq_true rfl⟩ dX12_init_310 ?_
  refine an_put ingX12 tyX12_ok nmX12 (ci := 10) (k := 57) rfl (by decide) rfl rfl rfl rfl (q0 := 0) (by omega) rfl (Nat.le_of_ble_eq_true rfl) fl_X12_124 dX12_init_312 ?_
  refine an_n (n' := 38) rfl ?_
  refine an_F (G := mdZ cy [.int 0, .null, .null, .null, .ref (a + 1), .ref (a + 2), .ref (a + 3), .ref (a + 4), .ref (a + 5), .ref (a + 6), .ref (a + 7), .int 0, .ref (a + 8), .int 0, .int 0, .int 0, .int (-1), .int 0, .int 0, .int 0, .ref (a + 9), .ref (a + 10), .ref (a + 11), .ref (a + 12), .ref (a + 13), .ref (a + 14), .ref (a + 15), .ref (a + 16), .ref (a + 17), .ref (a + 18), .ref (a + 19), .ref (a + 20), .ref (a + 21), .ref (a + 22), .ref (a + 23), .ref (a + 24), .ref (a + 25), .ref (a + 26), .ref (a + 27), .ref (a + 28), .ref (a + 29), .ref (a + 30), .ref (a + 31), .ref (a + 32), .ref (a + 33), .ref (a + 34), .ref (a + 35), .int 0, .int 0, .int 0, .int 0, .int 0, .int 0, .int 0, .int 0, .int 0, .ref (a + 36), .ref (a + 37), .null, .null, .int 0, .int 0, .int 0, .null, .int 0, .null, .int 0, .int 0, .null, .null, .null, .null, .null, .null, .null, .null, .null, .null, .null, .null, .int 0, .int 0]) (fun p _ => md_step rfl rfl (by decide) p) ?_
  refine an_aload_n dX12_init_315 rfl ?_
  refine an_sipush (v := 2049) dX12_init_316 (by decide) ?_
  refine an_newaZ (N := 2049) (by decide) (by decide) (by decide) ⟨Nat.le_of_ble_eq_true rfl, Nat.le_of_ble_eq_true rfl⟩ dX12_init_319 ?_
  refine an_put ingX12 tyX12_ok nmX12 (ci := 10) (k := 58) rfl (by decide) rfl rfl rfl rfl (q0 := 0) (by omega) rfl (Nat.le_of_ble_eq_true rfl) fl_X12_127 dX12_init_321 ?_
  refine an_n (n' := 39) rfl ?_
  refine an_F (G := mdZ cy [.int 0, .null, .null, .null, .ref (a + 1), .ref (a + 2), .ref (a + 3), .ref (a + 4), .ref (a + 5), .ref (a + 6), .ref (a + 7), .int 0, .ref (a + 8), .int 0, .int 0, .int 0, .int (-1), .int 0, .int 0, .int 0, .ref (a + 9), .ref (a + 10), .ref (a + 11), .ref (a + 12), .ref (a + 13), .ref (a + 14), .ref (a + 15), .ref (a + 16), .ref (a + 17), .ref (a + 18), .ref (a + 19), .ref (a + 20), .ref (a + 21), .ref (a + 22), .ref (a + 23), .ref (a + 24), .ref (a + 25), .ref (a + 26), .ref (a + 27), .ref (a + 28), .ref (a + 29), .ref (a + 30), .ref (a + 31), .ref (a + 32), .ref (a + 33), .ref (a + 34), .ref (a + 35), .int 0, .int 0, .int 0, .int 0, .int 0, .int 0, .int 0, .int 0, .int 0, .ref (a + 36), .ref (a + 37), .ref (a + 38), .null, .int 0, .int 0, .int 0, .null, .int 0, .null, .int 0, .int 0, .null, .null, .null, .null, .null, .null, .null, .null, .null, .null, .null, .null, .int 0, .int 0]) (fun p _ => md_step rfl rfl (by decide) p) ?_
  refine an_aload_n dX12_init_324 rfl ?_
  refine an_sipush (v := 2049) dX12_init_325 (by decide) ?_
  refine an_newaZ (N := 2049) (by decide) (by decide) (by decide) ⟨Nat.le_of_ble_eq_true rfl, Nat.le_of_ble_eq_true rfl⟩ dX12_init_328 ?_
  refine an_put ingX12 tyX12_ok nmX12 (ci := 10) (k := 59) rfl (by decide) rfl rfl rfl rfl (q0 := 0) (by omega) rfl (Nat.le_of_ble_eq_true rfl) fl_X12_130 dX12_init_330 ?_
  refine an_n (n' := 40) rfl ?_
  refine an_F (G := mdZ cy [.int 0, .null, .null, .null, .ref (a + 1), .ref (a + 2), .ref (a + 3), .ref (a + 4), .ref (a + 5), .ref (a + 6), .ref (a + 7), .int 0, .ref (a + 8), .int 0, .int 0, .int 0, .int (-1), .int 0, .int 0, .int 0, .ref (a + 9), .ref (a + 10), .ref (a + 11), .ref (a + 12), .ref (a + 13), .ref (a + 14), .ref (a + 15), .ref (a + 16), .ref (a + 17), .ref (a + 18), .ref (a + 19), .ref (a + 20), .ref (a + 21), .ref (a + 22), .ref (a + 23), .ref (a + 24), .ref (a + 25), .ref (a + 26), .ref (a + 27), .ref (a + 28), .ref (a + 29), .ref (a + 30), .ref (a + 31), .ref (a + 32), .ref (a + 33), .ref (a + 34), .ref (a + 35), .int 0, .int 0, .int 0, .int 0, .int 0, .int 0, .int 0, .int 0, .int 0, .ref (a + 36), .ref (a + 37), .ref (a + 38), .ref (a + 39), .int 0, .int 0, .int 0, .null, .int 0, .null, .int 0, .int 0, .null, .null, .null, .null, .null, .null, .null, .null, .null, .null, .null, .null, .int 0, .int 0]) (fun p _ => md_step rfl rfl (by decide) p) ?_
  refine an_aload_n dX12_init_333 rfl ?_
  refine an_bipush (v := 64) dX12_init_334 (by decide) ?_
  refine an_newaI (N := 64) (by decide) (by decide) (by decide) ⟨Nat.le_of_ble_eq_true rfl, Nat.le_of_ble_eq_true rfl⟩ dX12_init_336 ?_
  refine an_put ingX12 tyX12_ok nmX12 (ci := 10) (k := 63) rfl (by decide) rfl rfl rfl rfl (q0 := 0) (by omega) rfl (Nat.le_of_ble_eq_true rfl) fl_X12_133 dX12_init_338 ?_
  refine an_n (n' := 41) rfl ?_
  refine an_F (G := mdZ cy [.int 0, .null, .null, .null, .ref (a + 1), .ref (a + 2), .ref (a + 3), .ref (a + 4), .ref (a + 5), .ref (a + 6), .ref (a + 7), .int 0, .ref (a + 8), .int 0, .int 0, .int 0, .int (-1), .int 0, .int 0, .int 0, .ref (a + 9), .ref (a + 10), .ref (a + 11), .ref (a + 12), .ref (a + 13), .ref (a + 14), .ref (a + 15), .ref (a + 16), .ref (a + 17), .ref (a + 18), .ref (a + 19), .ref (a + 20), .ref (a + 21), .ref (a + 22), .ref (a + 23), .ref (a + 24), .ref (a + 25), .ref (a + 26), .ref (a + 27), .ref (a + 28), .ref (a + 29), .ref (a + 30), .ref (a + 31), .ref (a + 32), .ref (a + 33), .ref (a + 34), .ref (a + 35), .int 0, .int 0, .int 0, .int 0, .int 0, .int 0, .int 0, .int 0, .int 0, .ref (a + 36), .ref (a + 37), .ref (a + 38), .ref (a + 39), .int 0, .int 0, .int 0, .ref (a + 40), .int 0, .null, .int 0, .int 0, .null, .null, .null, .null, .null, .null, .null, .null, .null, .null, .null, .null, .int 0, .int 0]) (fun p _ => md_step rfl rfl (by decide) p) ?_
  refine an_aload_n dX12_init_341 rfl ?_
  refine an_sipush (v := 500) dX12_init_342 (by decide) ?_
  refine an_newaI (N := 500) (by decide) (by decide) (by decide) ⟨Nat.le_of_ble_eq_true rfl, Nat.le_of_ble_eq_true rfl⟩ dX12_init_345 ?_
  refine an_put ingX12 tyX12_ok nmX12 (ci := 10) (k := 65) rfl (by decide) rfl rfl rfl rfl (q0 := 0) (by omega) rfl (Nat.le_of_ble_eq_true rfl) fl_X12_136 dX12_init_347 ?_
  refine an_n (n' := 42) rfl ?_
  refine an_F (G := mdZ cy [.int 0, .null, .null, .null, .ref (a + 1), .ref (a + 2), .ref (a + 3), .ref (a + 4), .ref (a + 5), .ref (a + 6), .ref (a + 7), .int 0, .ref (a + 8), .int 0, .int 0, .int 0, .int (-1), .int 0, .int 0, .int 0, .ref (a + 9), .ref (a + 10), .ref (a + 11), .ref (a + 12), .ref (a + 13), .ref (a + 14), .ref (a + 15), .ref (a + 16), .ref (a + 17), .ref (a + 18), .ref (a + 19), .ref (a + 20), .ref (a + 21), .ref (a + 22), .ref (a + 23), .ref (a + 24), .ref (a + 25), .ref (a + 26), .ref (a + 27), .ref (a + 28), .ref (a + 29), .ref (a + 30), .ref (a + 31), .ref (a + 32), .ref (a + 33), .ref (a + 34), .ref (a + 35), .int 0, .int 0, .int 0, .int 0, .int 0, .int 0, .int 0, .int 0, .int 0, .ref (a + 36), .ref (a + 37), .ref (a + 38), .ref (a + 39), .int 0, .int 0, .int 0, .ref (a + 40), .int 0, .ref (a + 41), .int 0, .int 0, .null, .null, .null, .null, .null, .null, .null, .null, .null, .null, .null, .null, .int 0, .int 0]) (fun p _ => md_step rfl rfl (by decide) p) ?_
  refine an_aload_n dX12_init_350 rfl ?_
  refine an_bipush (v := 8) dX12_init_351 (by decide) ?_
  refine an_newaI (N := 8) (by decide) (by decide) (by decide) ⟨Nat.le_of_ble_eq_true rfl, Nat.le_of_ble_eq_true rfl⟩ dX12_init_353 ?_
  refine an_put ingX12 tyX12_ok nmX12 (ci := 10) (k := 68) rfl (by decide) rfl rfl rfl rfl (q0 := 0) (by omega) rfl (Nat.le_of_ble_eq_true rfl) fl_X12_139 dX12_init_355 ?_
  refine an_n (n' := 43) rfl ?_
  refine an_F (G := mdZ cy [.int 0, .null, .null, .null, .ref (a + 1), .ref (a + 2), .ref (a + 3), .ref (a + 4), .ref (a + 5), .ref (a + 6), .ref (a + 7), .int 0, .ref (a + 8), .int 0, .int 0, .int 0, .int (-1), .int 0, .int 0, .int 0, .ref (a + 9), .ref (a + 10), .ref (a + 11), .ref (a + 12), .ref (a + 13), .ref (a + 14), .ref (a + 15), .ref (a + 16), .ref (a + 17), .ref (a + 18), .ref (a + 19), .ref (a + 20), .ref (a + 21), .ref (a + 22), .ref (a + 23), .ref (a + 24), .ref (a + 25), .ref (a + 26), .ref (a + 27), .ref (a + 28), .ref (a + 29), .ref (a + 30), .ref (a + 31), .ref (a + 32), .ref (a + 33), .ref (a + 34), .ref (a + 35), .int 0, .int 0, .int 0, .int 0, .int 0, .int 0, .int 0, .int 0, .int 0, .ref (a + 36), .ref (a + 37), .ref (a + 38), .ref (a + 39), .int 0, .int 0, .int 0, .ref (a + 40), .int 0, .ref (a + 41), .int 0, .int 0, .ref (a + 42), .null, .null, .null, .null, .null, .null, .null, .null, .null, .null, .null, .int 0, .int 0]) (fun p _ => md_step rfl rfl (by decide) p) ?_
  refine an_aload_n dX12_init_358 rfl ?_
  refine an_bipush (v := 8) dX12_init_359 (by decide) ?_
  refine an_newaI (N := 8) (by decide) (by decide) (by decide) ⟨Nat.le_of_ble_eq_true rfl, Nat.le_of_ble_eq_true rfl⟩ dX12_init_361 ?_
  refine an_put ingX12 tyX12_ok nmX12 (ci := 10) (k := 69) rfl (by decide) rfl rfl rfl rfl (q0 := 0) (by omega) rfl (Nat.le_of_ble_eq_true rfl) fl_X12_142 dX12_init_363 ?_
  refine an_n (n' := 44) rfl ?_
  refine an_F (G := mdZ cy [.int 0, .null, .null, .null, .ref (a + 1), .ref (a + 2), .ref (a + 3), .ref (a + 4), .ref (a + 5), .ref (a + 6), .ref (a + 7), .int 0, .ref (a + 8), .int 0, .int 0, .int 0, .int (-1), .int 0, .int 0, .int 0, .ref (a + 9), .ref (a + 10), .ref (a + 11), .ref (a + 12), .ref (a + 13), .ref (a + 14), .ref (a + 15), .ref (a + 16), .ref (a + 17), .ref (a + 18), .ref (a + 19), .ref (a + 20), .ref (a + 21), .ref (a + 22), .ref (a + 23), .ref (a + 24), .ref (a + 25), .ref (a + 26), .ref (a + 27), .ref (a + 28), .ref (a + 29), .ref (a + 30), .ref (a + 31), .ref (a + 32), .ref (a + 33), .ref (a + 34), .ref (a + 35), .int 0, .int 0, .int 0, .int 0, .int 0, .int 0, .int 0, .int 0, .int 0, .ref (a + 36), .ref (a + 37), .ref (a + 38), .ref (a + 39), .int 0, .int 0, .int 0, .ref (a + 40), .int 0, .ref (a + 41), .int 0, .int 0, .ref (a + 42), .ref (a + 43), .null, .null, .null, .null, .null, .null, .null, .null, .null, .null, .int 0, .int 0]) (fun p _ => md_step rfl rfl (by decide) p) ?_
  refine an_aload_n dX12_init_366 rfl ?_
  refine an_bipush (v := 8) dX12_init_367 (by decide) ?_
  refine an_newaI (N := 8) (by decide) (by decide) (by decide) ⟨Nat.le_of_ble_eq_true rfl, Nat.le_of_ble_eq_true rfl⟩ dX12_init_369 ?_
  refine an_put ingX12 tyX12_ok nmX12 (ci := 10) (k := 70) rfl (by decide) rfl rfl rfl rfl (q0 := 0) (by omega) rfl (Nat.le_of_ble_eq_true rfl) fl_X12_145 dX12_init_371 ?_
  refine an_n (n' := 45) rfl ?_
  refine an_F (G := mdZ cy [.int 0, .null, .null, .null, .ref (a + 1), .ref (a + 2), .ref (a + 3), .ref (a + 4), .ref (a + 5), .ref (a + 6), .ref (a + 7), .int 0, .ref (a + 8), .int 0, .int 0, .int 0, .int (-1), .int 0, .int 0, .int 0, .ref (a + 9), .ref (a + 10), .ref (a + 11), .ref (a + 12), .ref (a + 13), .ref (a + 14), .ref (a + 15), .ref (a + 16), .ref (a + 17), .ref (a + 18), .ref (a + 19), .ref (a + 20), .ref (a + 21), .ref (a + 22), .ref (a + 23), .ref (a + 24), .ref (a + 25), .ref (a + 26), .ref (a + 27), .ref (a + 28), .ref (a + 29), .ref (a + 30), .ref (a + 31), .ref (a + 32), .ref (a + 33), .ref (a + 34), .ref (a + 35), .int 0, .int 0, .int 0, .int 0, .int 0, .int 0, .int 0, .int 0, .int 0, .ref (a + 36), .ref (a + 37), .ref (a + 38), .ref (a + 39), .int 0, .int 0, .int 0, .ref (a + 40), .int 0, .ref (a + 41), .int 0, .int 0, .ref (a + 42), .ref (a + 43), .ref (a + 44), .null, .null, .null, .null, .null, .null, .null, .null, .null, .int 0, .int 0]) (fun p _ => md_step rfl rfl (by decide) p) ?_
  refine an_aload_n dX12_init_374 rfl ?_
  refine an_sipush (v := 128) dX12_init_375 (by decide) ?_
  refine an_newaI (N := 128) (by decide) (by decide) (by decide) ⟨Nat.le_of_ble_eq_true rfl, Nat.le_of_ble_eq_true rfl⟩ dX12_init_378 ?_
  refine an_put ingX12 tyX12_ok nmX12 (ci := 10) (k := 71) rfl (by decide) rfl rfl rfl rfl (q0 := 0) (by omega) rfl (Nat.le_of_ble_eq_true rfl) fl_X12_148 dX12_init_380 ?_
  refine an_n (n' := 46) rfl ?_
  refine an_F (G := mdZ cy [.int 0, .null, .null, .null, .ref (a + 1), .ref (a + 2), .ref (a + 3), .ref (a + 4), .ref (a + 5), .ref (a + 6), .ref (a + 7), .int 0, .ref (a + 8), .int 0, .int 0, .int 0, .int (-1), .int 0, .int 0, .int 0, .ref (a + 9), .ref (a + 10), .ref (a + 11), .ref (a + 12), .ref (a + 13), .ref (a + 14), .ref (a + 15), .ref (a + 16), .ref (a + 17), .ref (a + 18), .ref (a + 19), .ref (a + 20), .ref (a + 21), .ref (a + 22), .ref (a + 23), .ref (a + 24), .ref (a + 25), .ref (a + 26), .ref (a + 27), .ref (a + 28), .ref (a + 29), .ref (a + 30), .ref (a + 31), .ref (a + 32), .ref (a + 33), .ref (a + 34), .ref (a + 35), .int 0, .int 0, .int 0, .int 0, .int 0, .int 0, .int 0, .int 0, .int 0, .ref (a + 36), .ref (a + 37), .ref (a + 38), .ref (a + 39), .int 0, .int 0, .int 0, .ref (a + 40), .int 0, .ref (a + 41), .int 0, .int 0, .ref (a + 42), .ref (a + 43), .ref (a + 44), .ref (a + 45), .null, .null, .null, .null, .null, .null, .null, .null, .int 0, .int 0]) (fun p _ => md_step rfl rfl (by decide) p) ?_
  refine an_aload_n dX12_init_383 rfl ?_
  refine an_sipush (v := 128) dX12_init_384 (by decide) ?_
  refine an_newaI (N := 128) (by decide) (by decide) (by decide) ⟨Nat.le_of_ble_eq_true rfl, Nat.le_of_ble_eq_true rfl⟩ dX12_init_387 ?_
  refine an_put ingX12 tyX12_ok nmX12 (ci := 10) (k := 72) rfl (by decide) rfl rfl rfl rfl (q0 := 0) (by omega) rfl (Nat.le_of_ble_eq_true rfl) fl_X12_151 dX12_init_389 ?_
  refine an_n (n' := 47) rfl ?_
  refine an_F (G := mdZ cy [.int 0, .null, .null, .null, .ref (a + 1), .ref (a + 2), .ref (a + 3), .ref (a + 4), .ref (a + 5), .ref (a + 6), .ref (a + 7), .int 0, .ref (a + 8), .int 0, .int 0, .int 0, .int (-1), .int 0, .int 0, .int 0, .ref (a + 9), .ref (a + 10), .ref (a + 11), .ref (a + 12), .ref (a + 13), .ref (a + 14), .ref (a + 15), .ref (a + 16), .ref (a + 17), .ref (a + 18), .ref (a + 19), .ref (a + 20), .ref (a + 21), .ref (a + 22), .ref (a + 23), .ref (a + 24), .ref (a + 25), .ref (a + 26), .ref (a + 27), .ref (a + 28), .ref (a + 29), .ref (a + 30), .ref (a + 31), .ref (a + 32), .ref (a + 33), .ref (a + 34), .ref (a + 35), .int 0, .int 0, .int 0, .int 0, .int 0, .int 0, .int 0, .int 0, .int 0, .ref (a + 36), .ref (a + 37), .ref (a + 38), .ref (a + 39), .int 0, .int 0, .int 0, .ref (a + 40), .int 0, .ref (a + 41), .int 0, .int 0, .ref (a + 42), .ref (a + 43), .ref (a + 44), .ref (a + 45), .ref (a + 46), .null, .null, .null, .null, .null, .null, .null, .int 0, .int 0]) (fun p _ => md_step rfl rfl (by decide) p) ?_
  refine an_aload_n dX12_init_392 rfl ?_
  refine an_sipush (v := 128) dX12_init_393 (by decide) ?_
  refine an_newaI (N := 128) (by decide) (by decide) (by decide) ⟨Nat.le_of_ble_eq_true rfl, Nat.le_of_ble_eq_true rfl⟩ dX12_init_396 ?_
  refine an_put ingX12 tyX12_ok nmX12 (ci := 10) (k := 73) rfl (by decide) rfl rfl rfl rfl (q0 := 0) (by omega) rfl (Nat.le_of_ble_eq_true rfl) fl_X12_154 dX12_init_398 ?_
  refine an_n (n' := 48) rfl ?_
  refine an_F (G := mdZ cy [.int 0, .null, .null, .null, .ref (a + 1), .ref (a + 2), .ref (a + 3), .ref (a + 4), .ref (a + 5), .ref (a + 6), .ref (a + 7), .int 0, .ref (a + 8), .int 0, .int 0, .int 0, .int (-1), .int 0, .int 0, .int 0, .ref (a + 9), .ref (a + 10), .ref (a + 11), .ref (a + 12), .ref (a + 13), .ref (a + 14), .ref (a + 15), .ref (a + 16), .ref (a + 17), .ref (a + 18), .ref (a + 19), .ref (a + 20), .ref (a + 21), .ref (a + 22), .ref (a + 23), .ref (a + 24), .ref (a + 25), .ref (a + 26), .ref (a + 27), .ref (a + 28), .ref (a + 29), .ref (a + 30), .ref (a + 31), .ref (a + 32), .ref (a + 33), .ref (a + 34), .ref (a + 35), .int 0, .int 0, .int 0, .int 0, .int 0, .int 0, .int 0, .int 0, .int 0, .ref (a + 36), .ref (a + 37), .ref (a + 38), .ref (a + 39), .int 0, .int 0, .int 0, .ref (a + 40), .int 0, .ref (a + 41), .int 0, .int 0, .ref (a + 42), .ref (a + 43), .ref (a + 44), .ref (a + 45), .ref (a + 46), .ref (a + 47), .null, .null, .null, .null, .null, .null, .int 0, .int 0]) (fun p _ => md_step rfl rfl (by decide) p) ?_
  refine an_aload_n dX12_init_401 rfl ?_
  refine an_sipush (v := 128) dX12_init_402 (by decide) ?_
  refine an_newaI (N := 128) (by decide) (by decide) (by decide) ⟨Nat.le_of_ble_eq_true rfl, Nat.le_of_ble_eq_true rfl⟩ dX12_init_405 ?_
  refine an_put ingX12 tyX12_ok nmX12 (ci := 10) (k := 74) rfl (by decide) rfl rfl rfl rfl (q0 := 0) (by omega) rfl (Nat.le_of_ble_eq_true rfl) fl_X12_157 dX12_init_407 ?_
  refine an_n (n' := 49) rfl ?_
  refine an_F (G := mdZ cy [.int 0, .null, .null, .null, .ref (a + 1), .ref (a + 2), .ref (a + 3), .ref (a + 4), .ref (a + 5), .ref (a + 6), .ref (a + 7), .int 0, .ref (a + 8), .int 0, .int 0, .int 0, .int (-1), .int 0, .int 0, .int 0, .ref (a + 9), .ref (a + 10), .ref (a + 11), .ref (a + 12), .ref (a + 13), .ref (a + 14), .ref (a + 15), .ref (a + 16), .ref (a + 17), .ref (a + 18), .ref (a + 19), .ref (a + 20), .ref (a + 21), .ref (a + 22), .ref (a + 23), .ref (a + 24), .ref (a + 25), .ref (a + 26), .ref (a + 27), .ref (a + 28), .ref (a + 29), .ref (a + 30), .ref (a + 31), .ref (a + 32), .ref (a + 33), .ref (a + 34), .ref (a + 35), .int 0, .int 0, .int 0, .int 0, .int 0, .int 0, .int 0, .int 0, .int 0, .ref (a + 36), .ref (a + 37), .ref (a + 38), .ref (a + 39), .int 0, .int 0, .int 0, .ref (a + 40), .int 0, .ref (a + 41), .int 0, .int 0, .ref (a + 42), .ref (a + 43), .ref (a + 44), .ref (a + 45), .ref (a + 46), .ref (a + 47), .ref (a + 48), .null, .null, .null, .null, .null, .int 0, .int 0]) (fun p _ => md_step rfl rfl (by decide) p) ?_
  refine an_aload_n dX12_init_410 rfl ?_
  refine an_bipush (v := 8) dX12_init_411 (by decide) ?_
  refine an_newaI (N := 8) (by decide) (by decide) (by decide) ⟨Nat.le_of_ble_eq_true rfl, Nat.le_of_ble_eq_true rfl⟩ dX12_init_413 ?_
  refine an_put ingX12 tyX12_ok nmX12 (ci := 10) (k := 75) rfl (by decide) rfl rfl rfl rfl (q0 := 0) (by omega) rfl (Nat.le_of_ble_eq_true rfl) fl_X12_160 dX12_init_415 ?_
  refine an_n (n' := 50) rfl ?_
  refine an_F (G := mdZ cy [.int 0, .null, .null, .null, .ref (a + 1), .ref (a + 2), .ref (a + 3), .ref (a + 4), .ref (a + 5), .ref (a + 6), .ref (a + 7), .int 0, .ref (a + 8), .int 0, .int 0, .int 0, .int (-1), .int 0, .int 0, .int 0, .ref (a + 9), .ref (a + 10), .ref (a + 11), .ref (a + 12), .ref (a + 13), .ref (a + 14), .ref (a + 15), .ref (a + 16), .ref (a + 17), .ref (a + 18), .ref (a + 19), .ref (a + 20), .ref (a + 21), .ref (a + 22), .ref (a + 23), .ref (a + 24), .ref (a + 25), .ref (a + 26), .ref (a + 27), .ref (a + 28), .ref (a + 29), .ref (a + 30), .ref (a + 31), .ref (a + 32), .ref (a + 33), .ref (a + 34), .ref (a + 35), .int 0, .int 0, .int 0, .int 0, .int 0, .int 0, .int 0, .int 0, .int 0, .ref (a + 36), .ref (a + 37), .ref (a + 38), .ref (a + 39), .int 0, .int 0, .int 0, .ref (a + 40), .int 0, .ref (a + 41), .int 0, .int 0, .ref (a + 42), .ref (a + 43), .ref (a + 44), .ref (a + 45), .ref (a + 46), .ref (a + 47), .ref (a + 48), .ref (a + 49), .null, .null, .null, .null, .int 0, .int 0]) (fun p _ => md_step rfl rfl (by decide) p) ?_
  refine an_aload_n dX12_init_418 rfl ?_
  refine an_bipush (v := 6) dX12_init_419 (by decide) ?_
  refine an_newaI (N := 6) (by decide) (by decide) (by decide) ⟨Nat.le_of_ble_eq_true rfl, Nat.le_of_ble_eq_true rfl⟩ dX12_init_421 ?_
  refine an_put ingX12 tyX12_ok nmX12 (ci := 10) (k := 76) rfl (by decide) rfl rfl rfl rfl (q0 := 0) (by omega) rfl (Nat.le_of_ble_eq_true rfl) fl_X12_163 dX12_init_423 ?_
  refine an_n (n' := 51) rfl ?_
  refine an_F (G := mdZ cy [.int 0, .null, .null, .null, .ref (a + 1), .ref (a + 2), .ref (a + 3), .ref (a + 4), .ref (a + 5), .ref (a + 6), .ref (a + 7), .int 0, .ref (a + 8), .int 0, .int 0, .int 0, .int (-1), .int 0, .int 0, .int 0, .ref (a + 9), .ref (a + 10), .ref (a + 11), .ref (a + 12), .ref (a + 13), .ref (a + 14), .ref (a + 15), .ref (a + 16), .ref (a + 17), .ref (a + 18), .ref (a + 19), .ref (a + 20), .ref (a + 21), .ref (a + 22), .ref (a + 23), .ref (a + 24), .ref (a + 25), .ref (a + 26), .ref (a + 27), .ref (a + 28), .ref (a + 29), .ref (a + 30), .ref (a + 31), .ref (a + 32), .ref (a + 33), .ref (a + 34), .ref (a + 35), .int 0, .int 0, .int 0, .int 0, .int 0, .int 0, .int 0, .int 0, .int 0, .ref (a + 36), .ref (a + 37), .ref (a + 38), .ref (a + 39), .int 0, .int 0, .int 0, .ref (a + 40), .int 0, .ref (a + 41), .int 0, .int 0, .ref (a + 42), .ref (a + 43), .ref (a + 44), .ref (a + 45), .ref (a + 46), .ref (a + 47), .ref (a + 48), .ref (a + 49), .ref (a + 50), .null, .null, .null, .int 0, .int 0]) (fun p _ => md_step rfl rfl (by decide) p) ?_
  refine an_aload_n dX12_init_426 rfl ?_
  refine an_bipush (v := 6) dX12_init_427 (by decide) ?_
  refine an_newaI (N := 6) (by decide) (by decide) (by decide) ⟨Nat.le_of_ble_eq_true rfl, Nat.le_of_ble_eq_true rfl⟩ dX12_init_429 ?_
  refine an_put ingX12 tyX12_ok nmX12 (ci := 10) (k := 77) rfl (by decide) rfl rfl rfl rfl (q0 := 0) (by omega) rfl (Nat.le_of_ble_eq_true rfl) fl_X12_166 dX12_init_431 ?_
  refine an_n (n' := 52) rfl ?_
  refine an_F (G := mdZ cy [.int 0, .null, .null, .null, .ref (a + 1), .ref (a + 2), .ref (a + 3), .ref (a + 4), .ref (a + 5), .ref (a + 6), .ref (a + 7), .int 0, .ref (a + 8), .int 0, .int 0, .int 0, .int (-1), .int 0, .int 0, .int 0, .ref (a + 9), .ref (a + 10), .ref (a + 11), .ref (a + 12), .ref (a + 13), .ref (a + 14), .ref (a + 15), .ref (a + 16), .ref (a + 17), .ref (a + 18), .ref (a + 19), .ref (a + 20), .ref (a + 21), .ref (a + 22), .ref (a + 23), .ref (a + 24), .ref (a + 25), .ref (a + 26), .ref (a + 27), .ref (a + 28), .ref (a + 29), .ref (a + 30), .ref (a + 31), .ref (a + 32), .ref (a + 33), .ref (a + 34), .ref (a + 35), .int 0, .int 0, .int 0, .int 0, .int 0, .int 0, .int 0, .int 0, .int 0, .ref (a + 36), .ref (a + 37), .ref (a + 38), .ref (a + 39), .int 0, .int 0, .int 0, .ref (a + 40), .int 0, .ref (a + 41), .int 0, .int 0, .ref (a + 42), .ref (a + 43), .ref (a + 44), .ref (a + 45), .ref (a + 46), .ref (a + 47), .ref (a + 48), .ref (a + 49), .ref (a + 50), .ref (a + 51), .null, .null, .int 0, .int 0]) (fun p _ => md_step rfl rfl (by decide) p) ?_
  refine an_aload_n dX12_init_434 rfl ?_
  refine an_bipush (v := 6) dX12_init_435 (by decide) ?_
  refine an_newaI (N := 6) (by decide) (by decide) (by decide) ⟨Nat.le_of_ble_eq_true rfl, Nat.le_of_ble_eq_true rfl⟩ dX12_init_437 ?_
  refine an_put ingX12 tyX12_ok nmX12 (ci := 10) (k := 78) rfl (by decide) rfl rfl rfl rfl (q0 := 0) (by omega) rfl (Nat.le_of_ble_eq_true rfl) fl_X12_169 dX12_init_439 ?_
  refine an_n (n' := 53) rfl ?_
  refine an_F (G := mdZ cy [.int 0, .null, .null, .null, .ref (a + 1), .ref (a + 2), .ref (a + 3), .ref (a + 4), .ref (a + 5), .ref (a + 6), .ref (a + 7), .int 0, .ref (a + 8), .int 0, .int 0, .int 0, .int (-1), .int 0, .int 0, .int 0, .ref (a + 9), .ref (a + 10), .ref (a + 11), .ref (a + 12), .ref (a + 13), .ref (a + 14), .ref (a + 15), .ref (a + 16), .ref (a + 17), .ref (a + 18), .ref (a + 19), .ref (a + 20), .ref (a + 21), .ref (a + 22), .ref (a + 23), .ref (a + 24), .ref (a + 25), .ref (a + 26), .ref (a + 27), .ref (a + 28), .ref (a + 29), .ref (a + 30), .ref (a + 31), .ref (a + 32), .ref (a + 33), .ref (a + 34), .ref (a + 35), .int 0, .int 0, .int 0, .int 0, .int 0, .int 0, .int 0, .int 0, .int 0, .ref (a + 36), .ref (a + 37), .ref (a + 38), .ref (a + 39), .int 0, .int 0, .int 0, .ref (a + 40), .int 0, .ref (a + 41), .int 0, .int 0, .ref (a + 42), .ref (a + 43), .ref (a + 44), .ref (a + 45), .ref (a + 46), .ref (a + 47), .ref (a + 48), .ref (a + 49), .ref (a + 50), .ref (a + 51), .ref (a + 52), .null, .int 0, .int 0]) (fun p _ => md_step rfl rfl (by decide) p) ?_
  refine an_aload_n dX12_init_442 rfl ?_
  refine an_bipush (v := 6) dX12_init_443 (by decide) ?_
  refine an_newaI (N := 6) (by decide) (by decide) (by decide) ⟨Nat.le_of_ble_eq_true rfl, Nat.le_of_ble_eq_true rfl⟩ dX12_init_445 ?_
  refine an_put ingX12 tyX12_ok nmX12 (ci := 10) (k := 79) rfl (by decide) rfl rfl rfl rfl (q0 := 0) (by omega) rfl (Nat.le_of_ble_eq_true rfl) fl_X12_172 dX12_init_447 ?_
  refine an_n (n' := 54) rfl ?_
  refine an_F (G := mdZ cy [.int 0, .null, .null, .null, .ref (a + 1), .ref (a + 2), .ref (a + 3), .ref (a + 4), .ref (a + 5), .ref (a + 6), .ref (a + 7), .int 0, .ref (a + 8), .int 0, .int 0, .int 0, .int (-1), .int 0, .int 0, .int 0, .ref (a + 9), .ref (a + 10), .ref (a + 11), .ref (a + 12), .ref (a + 13), .ref (a + 14), .ref (a + 15), .ref (a + 16), .ref (a + 17), .ref (a + 18), .ref (a + 19), .ref (a + 20), .ref (a + 21), .ref (a + 22), .ref (a + 23), .ref (a + 24), .ref (a + 25), .ref (a + 26), .ref (a + 27), .ref (a + 28), .ref (a + 29), .ref (a + 30), .ref (a + 31), .ref (a + 32), .ref (a + 33), .ref (a + 34), .ref (a + 35), .int 0, .int 0, .int 0, .int 0, .int 0, .int 0, .int 0, .int 0, .int 0, .ref (a + 36), .ref (a + 37), .ref (a + 38), .ref (a + 39), .int 0, .int 0, .int 0, .ref (a + 40), .int 0, .ref (a + 41), .int 0, .int 0, .ref (a + 42), .ref (a + 43), .ref (a + 44), .ref (a + 45), .ref (a + 46), .ref (a + 47), .ref (a + 48), .ref (a + 49), .ref (a + 50), .ref (a + 51), .ref (a + 52), .ref (a + 53), .int 0, .int 0]) (fun p _ => md_step rfl rfl (by decide) p) ?_
  refine an_aload_n dX12_init_450 rfl ?_
  refine an_sipush (v := 1024) dX12_init_451 (by decide) ?_
  have t8 : ¬ (1 ≤ x ∧ x ≤ 32) → nI (kbN x) = 8 := fun h => by unfold kbN; rw [if_neg h]; rfl
  refine an_tail (x := nI (kbN x)) (pc1 := 471) ?_ (fun tail => ?_)
  · refine an_imul dX12_init_471 ?_
    refine an_put ingX12 tyX12_ok nmX12 (ci := 10) (k := 0) rfl (by decide) rfl rfl (vp_nar_int _) rfl (q0 := 0) (by omega) rfl (Nat.le_of_ble_eq_true rfl) fl_X12_175 dX12_init_472 ?_
    refine an_F (G := mdZ cy [.int (1024 * nI (kbN x)), .null, .null, .null, .ref (a + 1), .ref (a + 2), .ref (a + 3), .ref (a + 4), .ref (a + 5), .ref (a + 6), .ref (a + 7), .int 0, .ref (a + 8), .int 0, .int 0, .int 0, .int (-1), .int 0, .int 0, .int 0, .ref (a + 9), .ref (a + 10), .ref (a + 11), .ref (a + 12), .ref (a + 13), .ref (a + 14), .ref (a + 15), .ref (a + 16), .ref (a + 17), .ref (a + 18), .ref (a + 19), .ref (a + 20), .ref (a + 21), .ref (a + 22), .ref (a + 23), .ref (a + 24), .ref (a + 25), .ref (a + 26), .ref (a + 27), .ref (a + 28), .ref (a + 29), .ref (a + 30), .ref (a + 31), .ref (a + 32), .ref (a + 33), .ref (a + 34), .ref (a + 35), .int 0, .int 0, .int 0, .int 0, .int 0, .int 0, .int 0, .int 0, .int 0, .ref (a + 36), .ref (a + 37), .ref (a + 38), .ref (a + 39), .int 0, .int 0, .int 0, .ref (a + 40), .int 0, .ref (a + 41), .int 0, .int 0, .ref (a + 42), .ref (a + 43), .ref (a + 44), .ref (a + 45), .ref (a + 46), .ref (a + 47), .ref (a + 48), .ref (a + 49), .ref (a + 50), .ref (a + 51), .ref (a + 52), .ref (a + 53), .int 0, .int 0]) (fun p _ => md_put rfl p) ?_
    refine an_aload_n dX12_init_475 rfl ?_
    refine an_ldc kc_X12_178 dX12_init_476 ?_
    refine an_newaB (N := 32768) (by decide) (by decide) (by decide) ⟨Nat.le_of_ble_eq_true rfl, Nat.le_of_ble_eq_true rfl⟩ dX12_init_478 ?_
    refine an_put ingX12 tyX12_ok nmX12 (ci := 10) (k := 1) rfl (by decide) rfl rfl rfl rfl (q0 := 0) (by omega) rfl (Nat.le_of_ble_eq_true rfl) fl_X12_179 dX12_init_480 ?_
    refine an_n (n' := 55) rfl ?_
    refine an_F (G := mdZ cy [.int (1024 * nI (kbN x)), .ref (a + 54), .null, .null, .ref (a + 1), .ref (a + 2), .ref (a + 3), .ref (a + 4), .ref (a + 5), .ref (a + 6), .ref (a + 7), .int 0, .ref (a + 8), .int 0, .int 0, .int 0, .int (-1), .int 0, .int 0, .int 0, .ref (a + 9), .ref (a + 10), .ref (a + 11), .ref (a + 12), .ref (a + 13), .ref (a + 14), .ref (a + 15), .ref (a + 16), .ref (a + 17), .ref (a + 18), .ref (a + 19), .ref (a + 20), .ref (a + 21), .ref (a + 22), .ref (a + 23), .ref (a + 24), .ref (a + 25), .ref (a + 26), .ref (a + 27), .ref (a + 28), .ref (a + 29), .ref (a + 30), .ref (a + 31), .ref (a + 32), .ref (a + 33), .ref (a + 34), .ref (a + 35), .int 0, .int 0, .int 0, .int 0, .int 0, .int 0, .int 0, .int 0, .int 0, .ref (a + 36), .ref (a + 37), .ref (a + 38), .ref (a + 39), .int 0, .int 0, .int 0, .ref (a + 40), .int 0, .ref (a + 41), .int 0, .int 0, .ref (a + 42), .ref (a + 43), .ref (a + 44), .ref (a + 45), .ref (a + 46), .ref (a + 47), .ref (a + 48), .ref (a + 49), .ref (a + 50), .ref (a + 51), .ref (a + 52), .ref (a + 53), .int 0, .int 0]) (fun p _ => md_step rfl rfl (by decide) p) ?_
    refine an_aload_n dX12_init_483 rfl ?_
    refine an_sipush (v := 2048) dX12_init_484 (by decide) ?_
    refine an_newaZ (N := 2048) (by decide) (by decide) (by decide) ⟨Nat.le_of_ble_eq_true rfl, Nat.le_of_ble_eq_true rfl⟩ dX12_init_487 ?_
    refine an_put ingX12 tyX12_ok nmX12 (ci := 10) (k := 2) rfl (by decide) rfl rfl rfl rfl (q0 := 0) (by omega) rfl (Nat.le_of_ble_eq_true rfl) fl_X12_182 dX12_init_489 ?_
    refine an_n (n' := 56) rfl ?_
    refine an_F (G := mdZ cy [.int (1024 * nI (kbN x)), .ref (a + 54), .ref (a + 55), .null, .ref (a + 1), .ref (a + 2), .ref (a + 3), .ref (a + 4), .ref (a + 5), .ref (a + 6), .ref (a + 7), .int 0, .ref (a + 8), .int 0, .int 0, .int 0, .int (-1), .int 0, .int 0, .int 0, .ref (a + 9), .ref (a + 10), .ref (a + 11), .ref (a + 12), .ref (a + 13), .ref (a + 14), .ref (a + 15), .ref (a + 16), .ref (a + 17), .ref (a + 18), .ref (a + 19), .ref (a + 20), .ref (a + 21), .ref (a + 22), .ref (a + 23), .ref (a + 24), .ref (a + 25), .ref (a + 26), .ref (a + 27), .ref (a + 28), .ref (a + 29), .ref (a + 30), .ref (a + 31), .ref (a + 32), .ref (a + 33), .ref (a + 34), .ref (a + 35), .int 0, .int 0, .int 0, .int 0, .int 0, .int 0, .int 0, .int 0, .int 0, .ref (a + 36), .ref (a + 37), .ref (a + 38), .ref (a + 39), .int 0, .int 0, .int 0, .ref (a + 40), .int 0, .ref (a + 41), .int 0, .int 0, .ref (a + 42), .ref (a + 43), .ref (a + 44), .ref (a + 45), .ref (a + 46), .ref (a + 47), .ref (a + 48), .ref (a + 49), .ref (a + 50), .ref (a + 51), .ref (a + 52), .ref (a + 53), .int 0, .int 0]) (fun p _ => md_step rfl rfl (by decide) p) ?_
    refine an_aload_n dX12_init_492 rfl ?_
    refine an_sipush (v := 2048) dX12_init_493 (by decide) ?_
    refine an_newaZ (N := 2048) (by decide) (by decide) (by decide) ⟨Nat.le_of_ble_eq_true rfl, Nat.le_of_ble_eq_true rfl⟩ dX12_init_496 ?_
    refine an_put ingX12 tyX12_ok nmX12 (ci := 10) (k := 3) rfl (by decide) rfl rfl rfl rfl (q0 := 0) (by omega) rfl (Nat.le_of_ble_eq_true rfl) fl_X12_185 dX12_init_498 ?_
    refine an_n (n' := 57) rfl ?_
    refine an_F (G := mdZ cy [.int (1024 * nI (kbN x)), .ref (a + 54), .ref (a + 55), .ref (a + 56), .ref (a + 1), .ref (a + 2), .ref (a + 3), .ref (a + 4), .ref (a + 5), .ref (a + 6), .ref (a + 7), .int 0, .ref (a + 8), .int 0, .int 0, .int 0, .int (-1), .int 0, .int 0, .int 0, .ref (a + 9), .ref (a + 10), .ref (a + 11), .ref (a + 12), .ref (a + 13), .ref (a + 14), .ref (a + 15), .ref (a + 16), .ref (a + 17), .ref (a + 18), .ref (a + 19), .ref (a + 20), .ref (a + 21), .ref (a + 22), .ref (a + 23), .ref (a + 24), .ref (a + 25), .ref (a + 26), .ref (a + 27), .ref (a + 28), .ref (a + 29), .ref (a + 30), .ref (a + 31), .ref (a + 32), .ref (a + 33), .ref (a + 34), .ref (a + 35), .int 0, .int 0, .int 0, .int 0, .int 0, .int 0, .int 0, .int 0, .int 0, .ref (a + 36), .ref (a + 37), .ref (a + 38), .ref (a + 39), .int 0, .int 0, .int 0, .ref (a + 40), .int 0, .ref (a + 41), .int 0, .int 0, .ref (a + 42), .ref (a + 43), .ref (a + 44), .ref (a + 45), .ref (a + 46), .ref (a + 47), .ref (a + 48), .ref (a + 49), .ref (a + 50), .ref (a + 51), .ref (a + 52), .ref (a + 53), .int 0, .int 0]) (fun p _ => md_step rfl rfl (by decide) p) ?_
    refine an_aload_n dX12_init_501 rfl ?_
    refine an_F (G := fun p => cellM cy a (V1M x) (kdM p).1 (kdM p).2) (fun p hp => ?_) (an_last (c_X12_begins 0 (by decide) hz) cs_X12_188 ⟨Nat.le_of_ble_eq_true rfl, Nat.le_of_ble_eq_true rfl⟩ ⟨Nat.le_of_ble_eq_true rfl, Nat.le_of_ble_eq_true rfl⟩ dX12_init_502 dX12_init_505 ⟨Nat.le_of_ble_eq_true rfl, Nat.le_of_ble_eq_true rfl⟩)
    rcases (show p = 0 ∨ p = 1 ∨ p = 2 ∨ p = 3 ∨ p = 4 ∨ p = 5 ∨ p = 6 ∨ p = 7 ∨ p = 8 ∨ p = 9 ∨ p = 10 ∨ p = 11 ∨ p = 12 ∨ p = 13 ∨ p = 14 ∨ p = 15 ∨ p = 16 ∨ p = 17 ∨ p = 18 ∨ p = 19 ∨ p = 20 ∨ p = 21 ∨ p = 22 ∨ p = 23 ∨ p = 24 ∨ p = 25 ∨ p = 26 ∨ p = 27 ∨ p = 28 ∨ p = 29 ∨ p = 30 ∨ p = 31 ∨ p = 32 ∨ p = 33 ∨ p = 34 ∨ p = 35 ∨ p = 36 ∨ p = 37 ∨ p = 38 ∨ p = 39 ∨ p = 40 ∨ p = 41 ∨ p = 42 ∨ p = 43 ∨ p = 44 ∨ p = 45 ∨ p = 46 ∨ p = 47 ∨ p = 48 ∨ p = 49 ∨ p = 50 ∨ p = 51 ∨ p = 52 ∨ p = 53 ∨ p = 54 ∨ p = 55 ∨ p = 56 by omega) with rfl | rfl | rfl | rfl | rfl | rfl | rfl | rfl | rfl | rfl | rfl | rfl | rfl | rfl | rfl | rfl | rfl | rfl | rfl | rfl | rfl | rfl | rfl | rfl | rfl | rfl | rfl | rfl | rfl | rfl | rfl | rfl | rfl | rfl | rfl | rfl | rfl | rfl | rfl | rfl | rfl | rfl | rfl | rfl | rfl | rfl | rfl | rfl | rfl | rfl | rfl | rfl | rfl | rfl | rfl | rfl | rfl <;> first | rfl | (simp [cellM, kdM, V1M, va_up, b2i, i2b]; done)
  · refine an_iload_n dX12_init_454 rfl ?_
    refine an_iconst (v := 1) dX12_init_455 (by decide) ?_
    refine an_icmp_lt (tgt := 469) dX12_init_456 (by decide) (fun h => ?_) (fun h => ?_)
    · refine an_bipush (v := nI (kbN x)) dX12_init_469 (by rw [t8 (fun q => absurd h (Int32.not_lt.mpr q.1))]; decide) ?_
      exact tail
    · refine an_iload_n dX12_init_459 rfl ?_
      refine an_bipush (v := 32) dX12_init_460 (by decide) ?_
      refine an_icmp_gt (tgt := 469) dX12_init_462 (by decide) (fun h2 => ?_) (fun h2 => ?_)
      · refine an_bipush (v := nI (kbN x)) dX12_init_469 (by rw [t8 (fun q => absurd h2 (Int32.not_lt.mpr q.2))]; decide) ?_
        exact tail
      · have hx := kbN_nI (Int32.not_lt.mp h) (Int32.not_lt.mp h2)
        refine an_iload_n (x := nI (kbN x)) dX12_init_465 (by rw [← hx]; rfl) ?_
        refine an_goto (tgt := 471) dX12_init_466 (by decide) ?_
        exact tail
