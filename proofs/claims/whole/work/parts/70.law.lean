/-! THE CLAIM OUT OF ONE WALK OF THE LAW'S BODY. Your part is whole_start (and what it stands on); all else here is the same for every law, but numbers. -/
def R_law : String := "SweptGrantsLaw"
def lw_P (b : Addr) (xs : List Int32) (args : Array Value) (s : State) : Prop := args = #[.ref b] ∧ s.IntsAt b xs ∧ xs.length ≤ 385 ∧ (Jvm.Cond.and given_1 narrow_1).before args s = true
def lw_Q (_ : Array Value) (s : State) (o : Outcome) (t : State) : Prop := o = .returned (some (.int 1)) ∧ Framed s o t [] 600000 7302250
def lw_Z (below : List Frame) (a : Array Value) (s : State) : State → Prop := fun t => ∃ o, t.status = .running ∧ Ended t below o ∧ lw_Q a s o t
/-- the law's own end, with 1 on the stack, nothing written that was there before, its room as the claim has it -/
theorem lw_ret {p : Program} {l : Launch} {e : Env} {s : State} {m : MethodId} {below : List Frame} {meth : Method} {c : Code} {b : Nat} (hx : p.tables.exec = Jvm.exec) (hb : c.code = code) (hr : meth.sig.returnType = ret) (hlocks : meth.locks = false) {pc : Nat} {H : Heap} {ls : Array Slot} (hdg : decode code pc = .ok (.ireturn, 1)) : W p l e room_1 s m #[Value.ref b] below meth c H [] 600000 7302250 (lw_Z below #[Value.ref b] s) (F0 m pc ls [.int 1]) := by
  intro T hT X
  obtain ⟨fs, hret, hrun, hended, hW, hframe⟩ := X.leave (v := some (.int 1)) (hlocks := hlocks) (fun h => by rw [hr] at h; cases h)
  have hmeth' : T.vm.method? m = some meth := X.method'
  refine ⟨T.setFrames fs, ?_, .returned (some (.int 1)), hrun, hended, rfl, ⟨_, rfl⟩, hW, hframe⟩
  jvm_step X.here [X.here.top, hx, hb, hdg, hmeth', hr, ret, narrow_b1]
  (try refine ⟨rfl, ?_⟩); (try refine ⟨rfl, ?_⟩)
  first | (intro acts; rw [hret _ acts rfl rfl rfl]) | rw [hret _ _ rfl rfl rfl]
  exact Steps.refl _
/-- what holds at the law's entry: the machine, the code, the tables' words (any of lw_tbl by 'hts w (by decide +kernel)'), the script of L ints xs at the cell b, what the Statement gives of the start (any of its parts by flat_of_before) -/
def lw_At (p : Program) (s : State) (m : MethodId) (meth : Method) (c : Code) (b L : Nat) (xs : Nat → Int32) : Prop :=
  p.tables.exec = Jvm.exec ∧ c.code = code ∧ meth.sig.returnType = ret ∧ c.maxLocals = 4 ∧ s.vm.findClass R_law = some m.cls ∧ (∀ w ∈ lw_tbl, w.before #[Value.ref b] s = true) ∧ va_X b L xs s s.heap ∧ b < s.heap.size ∧ meth.locks = false ∧ (Jvm.Cond.and given_1 narrow_1).before #[Value.ref b] s = true
def S_feed (RR : Nat → Nat → HV → HV → Prop) : Prop := ∀ (cn kb : Nat) (V W : HV), cn < 64 → RR cn kb V W → ∀ (x1 x2 x3 x4 x5 : Int32), ∃ (r : Bool) (V' : HV) (W' : HV), f_X11_feed kb 0 x1 x2 x3 x4 x5 V = some (r, V') ∧ f_X12_feed 0 x1 x2 x3 x4 x5 W = some (r, W') ∧ RR (cn + 1) kb V' W'
def S_boot (RR : Nat → Nat → HV → HV → Prop) : Prop := ∀ (cn kb : Nat) (V W : HV), cn < 64 → RR cn kb V W → ∀ (x1 : Int32), ∃ (r : Int32) (V' : HV) (W' : HV), f_X11_boot kb 0 x1 V = some (r, V') ∧ f_X12_boot 0 x1 W = some (r, W') ∧ RR (cn + 1) kb V' W'
def S_place (RR : Nat → Nat → HV → HV → Prop) : Prop := ∀ (cn kb : Nat) (V W : HV), cn < 64 → RR cn kb V W → ∃ (r : Int32), f_X11_place kb 0 V = r ∧ f_X12_place 0 W = r
def S_run (RR : Nat → Nat → HV → HV → Prop) : Prop := ∀ (cn kb : Nat) (V W : HV), cn < 64 → RR cn kb V W → ∀ (x1 : Int32), ∃ (r : Int32) (V' : HV) (W' : HV), f_X11_run kb 0 x1 V = some (r, V') ∧ f_X12_run 0 x1 W = some (r, W') ∧ RR (cn + 1) kb V' W'
def S_input (RR : Nat → Nat → HV → HV → Prop) : Prop := ∀ (cn kb : Nat) (V W : HV), cn < 64 → RR cn kb V W → ∀ (x1 : Int32), ∃ (r : Bool) (V' : HV) (W' : HV), f_X11_input kb 0 x1 V = some (r, V') ∧ f_X12_input 0 x1 W = some (r, W') ∧ RR (cn + 1) kb V' W'
def S_fetch (RR : Nat → Nat → HV → HV → Prop) : Prop := ∀ (cn kb : Nat) (V W : HV), cn < 64 → RR cn kb V W → ∃ (r : Int64) (V' : HV) (W' : HV), f_X11_fetch kb 0 V = some (r, V') ∧ f_X12_fetch 0 W = some (r, W') ∧ RR (cn + 1) kb V' W'
def S_register (RR : Nat → Nat → HV → HV → Prop) : Prop := ∀ (cn kb : Nat) (V W : HV), cn < 64 → RR cn kb V W → ∀ (x1 x2 x3 : Int32), ∃ (r : Int64), f_X11_register kb 0 x1 x2 x3 V = some r ∧ f_X12_register 0 x1 x2 x3 W = some r
def S_memory (RR : Nat → Nat → HV → HV → Prop) : Prop := ∀ (cn kb : Nat) (V W : HV), cn < 64 → RR cn kb V W → ∀ (x1 x2 : Int32), ∃ (r : Int64), f_X11_memory kb 0 x1 x2 V = some r ∧ f_X12_memory 0 x1 x2 W = some r
def S_tag (RR : Nat → Nat → HV → HV → Prop) : Prop := ∀ (cn kb : Nat) (V W : HV), cn < 64 → RR cn kb V W → ∀ (x1 : Int32), ∃ (r : Int32), f_X11_tag kb 0 x1 V = some r ∧ f_X12_tag 0 x1 W = some r
def S_thread (RR : Nat → Nat → HV → HV → Prop) : Prop := ∀ (cn kb : Nat) (V W : HV), cn < 64 → RR cn kb V W → ∀ (x1 x2 : Int32), ∃ (r : Int32), f_X11_thread kb 0 x1 x2 V = some r ∧ f_X12_thread 0 x1 x2 W = some r
def S_compartment (RR : Nat → Nat → HV → HV → Prop) : Prop := ∀ (cn kb : Nat) (V W : HV), cn < 64 → RR cn kb V W → ∀ (x1 x2 : Int32), ∃ (r : Int32), f_X11_compartment kb 0 x1 x2 V = some r ∧ f_X12_compartment 0 x1 x2 W = some r
def S_heap (RR : Nat → Nat → HV → HV → Prop) : Prop := ∀ (cn kb : Nat) (V W : HV), cn < 64 → RR cn kb V W → ∀ (x1 : Int32), ∃ (r : Int32), f_X11_heap kb 0 x1 V = some r ∧ f_X12_heap 0 x1 W = some r
def S_count (RR : Nat → Nat → HV → HV → Prop) : Prop := ∀ (cn kb : Nat) (V W : HV), cn < 64 → RR cn kb V W → ∀ (x1 : Int32), ∃ (r : Int32), f_X11_count kb 0 x1 V = r ∧ f_X12_count 0 x1 W = r
def S_broken (RR : Nat → Nat → HV → HV → Prop) : Prop := ∀ (cn kb : Nat) (V W : HV), cn < 64 → RR cn kb V W → ∀ (x1 : Int32), ∃ (r : Int32) (W' : HV), f_X11_broken 0 x1 = r ∧ f_X12_broken 0 x1 W = some (r, W') ∧ RR (cn + 1) kb V W'
/-- what the pure rows must give: a relation that holds at the start, that every call keeps, under which all answers are alike -/
def SIM (RR : Nat → Nat → HV → HV → Prop) : Prop := (∀ x, ∃ W, f_X12_begins 0 (V1M x) = some W ∧ RR 0 (kbN x) V0C W) ∧ (∀ cn kb V W, RR cn kb V W → RR (cn + 1) kb V W) ∧ S_feed RR ∧ S_boot RR ∧ S_place RR ∧ S_run RR ∧ S_input RR ∧ S_fetch RR ∧ S_register RR ∧ S_memory RR ∧ S_tag RR ∧ S_thread RR ∧ S_compartment RR ∧ S_heap RR ∧ S_count RR ∧ S_broken RR
def AL (Γ : Cx) (l : Launch) (D : va_G) (cy : Nat → ClassId) (b Ln : Nat) (xs : Nat → Int32) (bs kb : Nat) (V1 V2 : HV) (pc : Nat) (L : List (Option Value)) (st : List Value) : Prop := match Γ with
  | (p, e, s, m, args, below, meth, c) => AF (p, e, s, m, args, below, meth, c) D (tyL cy) code RL 4 ret → va_X b Ln xs s s.heap → b < s.heap.size → s.heap.size = bs → args = #[Value.ref b] → ∀ (H : Heap) (locs : List Loc) (ls : Array Slot), LR ls 4 L → va_P D vwCl (vwC cy bs kb V1) H → va_P D vwCl (vwM cy (bs + 737) V2) H → va_S (fun q => bs ≤ q) s.heap H locs → W p l e room_1 s m args below meth c H locs 600000 7302250 (lw_Z below #[Value.ref b] s) (F0 m pc ls st)
section ALS
variable {Γ : Cx} {l : Launch} {D : va_G} {cy : Nat → ClassId} {b Ln : Nat} {xs : Nat → Int32} {bs kb : Nat} {V1 V2 : HV} {pc : Nat} {L : List (Option Value)} {st : List Value}
theorem al_iconst {x : Int} {v : Int32} (hd : decode code pc = .ok (.iconst x, 1)) (hv : Int32.ofInt x = v) (k : AL Γ l D cy b Ln xs bs kb V1 V2 (pc + 1) L (.int v :: st)) : AL Γ l D cy b Ln xs bs kb V1 V2 pc L st := by
  obtain ⟨p, e, s, m, args, below, meth, c⟩ := Γ
  intro hA hX hb hs ha H locs ls hL hP1 hP2 hS
  exact lv_iconst hA.1 hA.2.1 hd hv (k hA hX hb hs ha H locs ls hL hP1 hP2 hS)
theorem al_bipush {x : Int} {v : Int32} (hd : decode code pc = .ok (.bipush x, 2)) (hv : (Int8.ofInt x).toInt32 = v) (k : AL Γ l D cy b Ln xs bs kb V1 V2 (pc + 2) L (.int v :: st)) : AL Γ l D cy b Ln xs bs kb V1 V2 pc L st := by
  obtain ⟨p, e, s, m, args, below, meth, c⟩ := Γ
  intro hA hX hb hs ha H locs ls hL hP1 hP2 hS
  exact lv_bipush hA.1 hA.2.1 hd hv (k hA hX hb hs ha H locs ls hL hP1 hP2 hS)
theorem al_iload_n {k0 : Fin 4} {x : Int32} (hd : decode code pc = .ok (.iload_n k0, 1)) (hl : L[(k0 : Nat)]? = some (some (.int x))) (k : AL Γ l D cy b Ln xs bs kb V1 V2 (pc + 1) L (.int x :: st)) : AL Γ l D cy b Ln xs bs kb V1 V2 pc L st := by
  obtain ⟨p, e, s, m, args, below, meth, c⟩ := Γ
  intro hA hX hb hs ha H locs ls hL hP1 hP2 hS
  exact lv_iload_n hA.1 hA.2.1 hd rfl (hL.2.2 _ _ hl) (k hA hX hb hs ha H locs ls hL hP1 hP2 hS)
theorem al_aload_n {k0 : Fin 4} {x : Nat} (hd : decode code pc = .ok (.aload_n k0, 1)) (hl : L[(k0 : Nat)]? = some (some (.ref x))) (k : AL Γ l D cy b Ln xs bs kb V1 V2 (pc + 1) L (.ref x :: st)) : AL Γ l D cy b Ln xs bs kb V1 V2 pc L st := by
  obtain ⟨p, e, s, m, args, below, meth, c⟩ := Γ
  intro hA hX hb hs ha H locs ls hL hP1 hP2 hS
  exact lv_aload_n hA.1 hA.2.1 hd rfl (hL.2.2 _ _ hl) (k hA hX hb hs ha H locs ls hL hP1 hP2 hS)
theorem al_iadd {x y : Nat} (hd : decode code pc = .ok (.iadd, 1)) (k : AL Γ l D cy b Ln xs bs kb V1 V2 (pc + 1) L (.int (nI (x + y)) :: st)) : AL Γ l D cy b Ln xs bs kb V1 V2 pc L (.int (nI y) :: .int (nI x) :: st) := by
  obtain ⟨p, e, s, m, args, below, meth, c⟩ := Γ
  intro hA hX hb hs ha H locs ls hL hP1 hP2 hS
  exact lv_iadd hA.1 hA.2.1 hd (by rw [nI_add]; exact (k hA hX hb hs ha H locs ls hL hP1 hP2 hS))
theorem al_isub {x y : Int32} (hd : decode code pc = .ok (.isub, 1)) (k : AL Γ l D cy b Ln xs bs kb V1 V2 (pc + 1) L (.int (x - y) :: st)) : AL Γ l D cy b Ln xs bs kb V1 V2 pc L (.int y :: .int x :: st) := by
  obtain ⟨p, e, s, m, args, below, meth, c⟩ := Γ
  intro hA hX hb hs ha H locs ls hL hP1 hP2 hS
  exact lv_isub hA.1 hA.2.1 hd (k hA hX hb hs ha H locs ls hL hP1 hP2 hS)
theorem al_iand {x y : Int32} (hd : decode code pc = .ok (.iand, 1)) (k : AL Γ l D cy b Ln xs bs kb V1 V2 (pc + 1) L (.int (x &&& y) :: st)) : AL Γ l D cy b Ln xs bs kb V1 V2 pc L (.int y :: .int x :: st) := by
  obtain ⟨p, e, s, m, args, below, meth, c⟩ := Γ
  intro hA hX hb hs ha H locs ls hL hP1 hP2 hS
  exact lv_iand hA.1 hA.2.1 hd (k hA hX hb hs ha H locs ls hL hP1 hP2 hS)
theorem al_lcmp {x : Int64} (hd : decode code pc = .ok (.lcmp, 1)) (k : AL Γ l D cy b Ln xs bs kb V1 V2 (pc + 1) L (.int 0 :: st)) : AL Γ l D cy b Ln xs bs kb V1 V2 pc L (.long x :: .long x :: st) := by
  obtain ⟨p, e, s, m, args, below, meth, c⟩ := Γ
  intro hA hX hb hs ha H locs ls hL hP1 hP2 hS
  exact W.lcmp hA.1 hA.2.1 hd (by rw [show lg_cmp x x = 0 by unfold lg_cmp; simp [Int64.lt_irrefl]]; exact (k hA hX hb hs ha H locs ls hL hP1 hP2 hS))
theorem al_goto {off : Int} {tgt : Nat} (hd : decode code pc = .ok (.goto off, 3)) (ht : (pc : Int) + off = (tgt : Int)) (k : AL Γ l D cy b Ln xs bs kb V1 V2 tgt L st) : AL Γ l D cy b Ln xs bs kb V1 V2 pc L st := by
  obtain ⟨p, e, s, m, args, below, meth, c⟩ := Γ
  intro hA hX hb hs ha H locs ls hL hP1 hP2 hS
  exact lv_goto hA.1 hA.2.1 hd ht (k hA hX hb hs ha H locs ls hL hP1 hP2 hS)
theorem al_eq {x : Int32} {off : Int} {tgt : Nat} (hd : decode code pc = .ok (.if_icmp .eq off, 3)) (ht : (pc : Int) + off = (tgt : Int)) (k : AL Γ l D cy b Ln xs bs kb V1 V2 tgt L st) : AL Γ l D cy b Ln xs bs kb V1 V2 pc L (.int x :: .int x :: st) := by
  obtain ⟨p, e, s, m, args, below, meth, c⟩ := Γ
  intro hA hX hb hs ha H locs ls hL hP1 hP2 hS
  exact lv_icmp_eq hA.1 hA.2.1 hd ht (fun _ => (k hA hX hb hs ha H locs ls hL hP1 hP2 hS)) (fun h => absurd rfl h)
theorem al_if0 {off : Int} {tgt : Nat} (hd : decode code pc = .ok (.ifCond .eq off, 3)) (ht : (pc : Int) + off = (tgt : Int)) (k : AL Γ l D cy b Ln xs bs kb V1 V2 tgt L st) : AL Γ l D cy b Ln xs bs kb V1 V2 pc L (.int 0 :: st) := by
  obtain ⟨p, e, s, m, args, below, meth, c⟩ := Γ
  intro hA hX hb hs ha H locs ls hL hP1 hP2 hS
  exact lv_if_eq hA.1 hA.2.1 hd ht (fun _ => (k hA hX hb hs ha H locs ls hL hP1 hP2 hS)) (fun h => absurd rfl h)
theorem al_iinc {i : Nat} {y : Int} {x v : Int32} {L' : List (Option Value)} (hd : decode code pc = .ok (.iinc i y, 3)) (hx : L[i]? = some (some (.int x))) (hv : x + Int32.ofInt y = v) (hn : i < 4) (hl : set1 L i (.int v) = L') (k : AL Γ l D cy b Ln xs bs kb V1 V2 (pc + 3) L' st) : AL Γ l D cy b Ln xs bs kb V1 V2 pc L st := by
  obtain ⟨p, e, s, m, args, below, meth, c⟩ := Γ
  intro hA hX hb hs ha H locs ls hL hP1 hP2 hS
  subst hl
  obtain ⟨k1, hk1⟩ := asc_idx hx
  exact lv_iinc hA.1 hA.2.1 hd hL.has hk1 hv hn rfl (fun ls' hl' => k hA hX hb hs ha H locs ls' (LR.st1 hl') hP1 hP2 hS)
theorem al_sld {j : Nat} (hj : j < Ln) (hl : Ln < 2 ^ 31) (hd : decode code pc = .ok (.iaload, 1)) (k : AL Γ l D cy b Ln xs bs kb V1 V2 (pc + 1) L (.int (xs j) :: st)) : AL Γ l D cy b Ln xs bs kb V1 V2 pc L (.int (nI j) :: .ref b :: st) := by
  obtain ⟨p, e, s, m, args, below, meth, c⟩ := Γ
  intro hA hX hb hs ha H locs ls hL hP1 hP2 hS
  exact va_sld hA.1 hA.2.1 hX hb (by omega) hS (vp_in_nI hj hl) hd (by rw [nI_clamp (by omega)]; exact (k hA hX hb hs ha H locs ls hL hP1 hP2 hS))
theorem al_slen  (hd : decode code pc = .ok (.arraylength, 1)) (k : AL Γ l D cy b Ln xs bs kb V1 V2 (pc + 1) L (.int (nI Ln) :: st)) : AL Γ l D cy b Ln xs bs kb V1 V2 pc L (.ref b :: st) := by
  obtain ⟨p, e, s, m, args, below, meth, c⟩ := Γ
  intro hA hX hb hs ha H locs ls hL hP1 hP2 hS
  exact va_slen hA.1 hA.2.1 hX hb (by omega) hS hd (k hA hX hb hs ha H locs ls hL hP1 hP2 hS)
theorem al_gt {x y : Int32} {off : Int} {tgt : Nat} (hd : decode code pc = .ok (.if_icmp .gt off, 3)) (ht : (pc : Int) + off = (tgt : Int)) (kt : y < x → AL Γ l D cy b Ln xs bs kb V1 V2 tgt L st) (kf : ¬ (y < x) → AL Γ l D cy b Ln xs bs kb V1 V2 (pc + 3) L st) : AL Γ l D cy b Ln xs bs kb V1 V2 pc L (.int y :: .int x :: st) := by
  obtain ⟨p, e, s, m, args, below, meth, c⟩ := Γ
  intro hA hX hb hs ha H locs ls hL hP1 hP2 hS
  exact lv_icmp_gt hA.1 hA.2.1 hd ht (fun h => kt h hA hX hb hs ha H locs ls hL hP1 hP2 hS) (fun h => kf h hA hX hb hs ha H locs ls hL hP1 hP2 hS)
theorem al_tab {x k0 : Int32} {dflt lo hi : Int} {offs : Array Int} {len : Nat} {off : Int} {tgt : Nat} (hx : x = k0) (hd : decode code pc = .ok (.tableswitch dflt lo hi offs, len)) (h1 : ¬ k0.toInt < lo) (h2 : ¬ hi < k0.toInt) (ho : offs[(k0.toInt - lo).toNat]? = some off) (ht : (pc : Int) + off = (tgt : Int)) (k : AL Γ l D cy b Ln xs bs kb V1 V2 tgt L st) : AL Γ l D cy b Ln xs bs kb V1 V2 pc L (.int x :: st) := by
  subst hx
  obtain ⟨p, e, s, m, args, below, meth, c⟩ := Γ
  intro hA hX hb hs ha H locs ls hL hP1 hP2 hS
  exact lv_tableIn hA.1 hA.2.1 hd h1 h2 ho ht (k hA hX hb hs ha H locs ls hL hP1 hP2 hS)
theorem al_tabD {x k0 : Int32} {dflt lo hi : Int} {offs : Array Int} {len : Nat} {tgt : Nat} (hx : x = k0) (hd : decode code pc = .ok (.tableswitch dflt lo hi offs, len)) (h : k0.toInt < lo ∨ hi < k0.toInt) (ht : (pc : Int) + dflt = (tgt : Int)) (k : AL Γ l D cy b Ln xs bs kb V1 V2 tgt L st) : AL Γ l D cy b Ln xs bs kb V1 V2 pc L (.int x :: st) := by
  subst hx
  obtain ⟨p, e, s, m, args, below, meth, c⟩ := Γ
  intro hA hX hb hs ha H locs ls hL hP1 hP2 hS
  exact lv_tableOut hA.1 hA.2.1 hd h ht (k hA hX hb hs ha H locs ls hL hP1 hP2 hS)
theorem al_ret (hd : decode code pc = .ok (.ireturn, 1)) : AL Γ l D cy b Ln xs bs kb V1 V2 pc L [.int 1] := by
  obtain ⟨p, e, s, m, args, below, meth, c⟩ := Γ
  intro hA hX hb hs ha H locs ls hL hP1 hP2 hS
  subst ha
  refine va_forget (fun q hq => by rw [hs]; exact hS.2.2 q hq) ?_
  exact lw_ret hA.1 hA.2.1 hA.2.2.2.2.2.2.2.1 hA.2.2.2.2.2.2.1 hd
theorem vw_keep {H H1 : Heap} {n a : Nat} {F : Nat → va_E} (h : va_P D vwCl (vwG n a F) H) (hk : ∀ p, p < n → H1[a + p]? = H[a + p]?) : va_P D vwCl (vwG n a F) H1 := by
  rw [vwG_P] at h ⊢
  exact fun p hp => (h p hp).kept (hk p hp)
theorem vw_lt {H : Heap} {n a : Nat} {F : Nat → va_E} (h : va_P D vwCl (vwG n a F) H) {p : Nat} (hp : p < n) : a + p < H.size := by
  rw [vwG_P] at h
  exact (h p hp).lt
theorem al_callC {τ : Type} {tv : τ → Option Value} {y : MethodName} {bytes : ByteArray} {maxL rF rL index n : Nat} {rt : Option FieldType} {As rest : List Value} {zc : τ × HV} (hM : CM l (aG 737 bs) D (tyL cy) (vwC cy bs kb) y bytes maxL rt rF rL tv (.ref (bs + posC 9 0) :: As) V1 zc) (hw : CSV RL index RX11 y bytes maxL rt n) (hn : As.length = n) (hst : st = As.reverse ++ .ref (bs + posC 9 0) :: rest) (hrest : (rest.map fun v => v.category).sum ≤ 8) (hR : rF + 1 ≤ 12 ∧ 8 + (maxL + 11) + rL ≤ 472) (hd : decode code pc = .ok (.invokevirtual index, 3)) (k : AL Γ l D cy b Ln xs bs kb zc.2 V2 (pc + 3) L ((tv zc.1).toList ++ rest)) : AL Γ l D cy b Ln xs bs kb V1 V2 pc L st := by
  obtain ⟨p, e, s, m, args, below, meth, c⟩ := Γ
  intro hA hX hb hs ha H locs ls hL hP1 hP2 hS
  subst hst
  have hN : ∀ w ∈ lw_n, va_Nw w s := hA.2.2.2.2.2.2.2.2
  have hpre := cm_pre (av := .ref (bs + posC 9 0) :: As) hP1 hA.2.2.2.2.2.1 hN
  have hG : GoodIn lw_g (wsV RL index RX11 y (Cond.code y bytes maxL rt :: lw_g)) := by
    intro w h
    rcases List.mem_append.mp h with h1 | h1
    · have hm : w ∈ lw_g := by
        simp only [List.mem_cons, List.not_mem_nil, or_false] at h1
        rcases h1 with rfl | rfl | rfl | rfl
        · exact hw.1.1
        · exact hw.1.2.1
        · exact hw.1.2.2.1
        · exact hw.1.2.2.2.1
      exact ⟨hm, lw_g_good _ hm⟩
    · exact good_code hw.1.2.2.2.2 w h1
  have hrun := va_runV (bytes := bytes) (maxL := maxL) (ret := rt) (H := H) (locs := locs) (cells := 600000) (slots := 7302250) (R := room_1) (g := F0 m pc ls (As.reverse ++ .ref (bs + posC 9 0) :: rest)) (As := As) (rest := rest) ⟨hA.1, hA.2.1, hA.2.2.1, hA.2.2.2.1, hA.2.2.2.2.1⟩ hM (cwV n hA.2.2.2.2.1 hG rfl rfl rfl hw.2 hR) ⟨hpre.1, va_recv hA.2.2.2.2.2.1 hP1 (ci := 9) rfl (vwC_at (kpC_9 0 (by decide))), hpre.2⟩ rfl hn (by exact hL.1) rfl (lv_room hrest) hd ⟨Nat.le_refl _, Nat.le_refl _⟩ (meth := meth) (below := below) (e := e)
  intro T hT X
  obtain ⟨v, st₀, t, T', L1, h0, X', hL1, e1, e2, ⟨hv, hp1, hzf, hk⟩, stp⟩ := hrun T hT X
  have hv := Outcome.returned.inj hv
  subst hv
  rw [h0] at hzf hk
  have k3 : va_S (fun q => bs ≤ q) s.heap T'.heap (locs ++ L1) := by
    refine ⟨Nat.le_trans hS.1 (by rw [e1]; exact hzf), fun q h1 h2 => ?_, fun q hq => ?_⟩
    · rw [e1, hk q (by have := hS.1; omega) (fun hq => h2 hq.1)]
      exact hS.2.1 q h1 h2
    · rcases List.mem_append.mp hq with h | h
      · exact hS.2.2 q h
      · exact (hL1 q h).1
  have k4 : va_P D vwCl (vwM cy (bs + 737) V2) T'.heap := by
    refine vw_keep (H := H) hP2 (fun q hq => ?_)
    rw [e1]
    exact hk _ (vw_lt hP2 hq) (fun hq' => by unfold aG at hq'; omega)
  obtain ⟨t2, a1, b1⟩ := k hA hX hb hs ha T'.heap (locs ++ L1) ls hL (by rw [e1]; exact hp1) k4 k3 T' rfl X'
  exact ⟨t2, stp t2 a1, b1⟩
theorem al_callM {τ : Type} {tv : τ → Option Value} {y : MethodName} {bytes : ByteArray} {maxL rF rL index n : Nat} {rt : Option FieldType} {As rest : List Value} {zc : τ × HV} (hM : CM l (aG 57 (bs + 737)) D (tyL cy) (vwM cy (bs + 737)) y bytes maxL rt rF rL tv (.ref (bs + 737 + posM 10 0) :: As) V2 zc) (hw : CSV RL index RX12 y bytes maxL rt n) (hn : As.length = n) (hst : st = As.reverse ++ .ref (bs + 737 + posM 10 0) :: rest) (hrest : (rest.map fun v => v.category).sum ≤ 8) (hR : rF + 1 ≤ 12 ∧ 8 + (maxL + 11) + rL ≤ 472) (hd : decode code pc = .ok (.invokevirtual index, 3)) (k : AL Γ l D cy b Ln xs bs kb V1 zc.2 (pc + 3) L ((tv zc.1).toList ++ rest)) : AL Γ l D cy b Ln xs bs kb V1 V2 pc L st := by
  obtain ⟨p, e, s, m, args, below, meth, c⟩ := Γ
  intro hA hX hb hs ha H locs ls hL hP1 hP2 hS
  subst hst
  have hN : ∀ w ∈ lw_n, va_Nw w s := hA.2.2.2.2.2.2.2.2
  have hpre := cm_pre (av := .ref (bs + 737 + posM 10 0) :: As) hP2 hA.2.2.2.2.2.1 hN
  have hG : GoodIn lw_g (wsV RL index RX12 y (Cond.code y bytes maxL rt :: lw_g)) := by
    intro w h
    rcases List.mem_append.mp h with h1 | h1
    · have hm : w ∈ lw_g := by
        simp only [List.mem_cons, List.not_mem_nil, or_false] at h1
        rcases h1 with rfl | rfl | rfl | rfl
        · exact hw.1.1
        · exact hw.1.2.1
        · exact hw.1.2.2.1
        · exact hw.1.2.2.2.1
      exact ⟨hm, lw_g_good _ hm⟩
    · exact good_code hw.1.2.2.2.2 w h1
  have hrun := va_runV (bytes := bytes) (maxL := maxL) (ret := rt) (H := H) (locs := locs) (cells := 600000) (slots := 7302250) (R := room_1) (g := F0 m pc ls (As.reverse ++ .ref (bs + 737 + posM 10 0) :: rest)) (As := As) (rest := rest) ⟨hA.1, hA.2.1, hA.2.2.1, hA.2.2.2.1, hA.2.2.2.2.1⟩ hM (cwV n hA.2.2.2.2.1 hG rfl rfl rfl hw.2 hR) ⟨hpre.1, va_recv hA.2.2.2.2.2.1 hP2 (ci := 10) rfl (vwM_at (kpM_10 0 (by decide))), hpre.2⟩ rfl hn (by exact hL.1) rfl (lv_room hrest) hd ⟨Nat.le_refl _, Nat.le_refl _⟩ (meth := meth) (below := below) (e := e)
  intro T hT X
  obtain ⟨v, st₀, t, T', L1, h0, X', hL1, e1, e2, ⟨hv, hp1, hzf, hk⟩, stp⟩ := hrun T hT X
  have hv := Outcome.returned.inj hv
  subst hv
  rw [h0] at hzf hk
  have k3 : va_S (fun q => bs ≤ q) s.heap T'.heap (locs ++ L1) := by
    refine ⟨Nat.le_trans hS.1 (by rw [e1]; exact hzf), fun q h1 h2 => ?_, fun q hq => ?_⟩
    · rw [e1, hk q (by have := hS.1; omega) (fun hq => h2 (Nat.le_trans (Nat.le_add_right _ _) hq.1))]
      exact hS.2.1 q h1 h2
    · rcases List.mem_append.mp hq with h | h
      · exact hS.2.2 q h
      · exact Nat.le_trans (Nat.le_add_right _ _) (hL1 q h).1
  have k4 : va_P D vwCl (vwC cy bs kb V1) T'.heap := by
    refine vw_keep (H := H) hP1 (fun q hq => ?_)
    rw [e1]
    exact hk _ (vw_lt hP1 hq) (fun hq' => by unfold aG at hq'; omega)
  obtain ⟨t2, a1, b1⟩ := k hA hX hb hs ha T'.heap (locs ++ L1) ls hL k4 (by rw [e1]; exact hp1) k3 T' rfl X'
  exact ⟨t2, stp t2 a1, b1⟩
end ALS
theorem cl_21 : CSV RL 21 RX11 yX11_feed cX11_feed 6 (some .boolean) 5 := ⟨⟨lw_g_of (List.mem_append_right _ (List.mem_append_right _ (List.mem_append_left _ (List.mem_of_getElem? (i := 201) rfl : _ ∈ tables_1_2)))) rfl, lw_g_of (List.mem_append_right _ (List.mem_append_right _ (List.mem_append_left _ (List.mem_of_getElem? (i := 202) rfl : _ ∈ tables_1_2)))) rfl, lw_g_of (List.mem_append_right _ (List.mem_append_right _ (List.mem_append_left _ (List.mem_of_getElem? (i := 203) rfl : _ ∈ tables_1_2)))) rfl, lw_g_of (List.mem_append_right _ (List.mem_append_left _ (List.mem_of_getElem? (i := 1) rfl : _ ∈ tables_1_1))) rfl, lw_g_of (List.mem_append_right _ (List.mem_append_right _ (List.mem_append_left _ (List.mem_of_getElem? (i := 204) rfl : _ ∈ tables_1_2)))) rfl⟩, rfl, by decide, by decide, rfl⟩
theorem cl_25 : CSV RL 25 RX12 yX12_feed cX12_feed 6 (some .boolean) 5 := ⟨⟨lw_g_of (List.mem_append_right _ (List.mem_append_right _ (List.mem_append_right _ (List.mem_append_right _ (List.mem_append_right _ (List.mem_append_right _ (List.mem_append_left _ (List.mem_of_getElem? (i := 200) rfl : _ ∈ tables_1_6)))))))) rfl, lw_g_of (List.mem_append_right _ (List.mem_append_right _ (List.mem_append_right _ (List.mem_append_right _ (List.mem_append_right _ (List.mem_append_right _ (List.mem_append_left _ (List.mem_of_getElem? (i := 201) rfl : _ ∈ tables_1_6)))))))) rfl, lw_g_of (List.mem_append_right _ (List.mem_append_right _ (List.mem_append_right _ (List.mem_append_right _ (List.mem_append_right _ (List.mem_append_right _ (List.mem_append_left _ (List.mem_of_getElem? (i := 202) rfl : _ ∈ tables_1_6)))))))) rfl, lw_g_of (List.mem_append_right _ (List.mem_append_left _ (List.mem_of_getElem? (i := 11) rfl : _ ∈ tables_1_1))) rfl, lw_g_of (List.mem_append_right _ (List.mem_append_right _ (List.mem_append_right _ (List.mem_append_right _ (List.mem_append_right _ (List.mem_append_right _ (List.mem_append_left _ (List.mem_of_getElem? (i := 203) rfl : _ ∈ tables_1_6)))))))) rfl⟩, rfl, by decide, by decide, rfl⟩
theorem cl_26 : CSV RL 26 RX11 yX11_boot cX11_boot 2 (some .int) 1 := ⟨⟨lw_g_of (List.mem_append_right _ (List.mem_append_right _ (List.mem_append_left _ (List.mem_of_getElem? (i := 213) rfl : _ ∈ tables_1_2)))) rfl, lw_g_of (List.mem_append_right _ (List.mem_append_right _ (List.mem_append_left _ (List.mem_of_getElem? (i := 214) rfl : _ ∈ tables_1_2)))) rfl, lw_g_of (List.mem_append_right _ (List.mem_append_right _ (List.mem_append_left _ (List.mem_of_getElem? (i := 215) rfl : _ ∈ tables_1_2)))) rfl, lw_g_of (List.mem_append_right _ (List.mem_append_left _ (List.mem_of_getElem? (i := 1) rfl : _ ∈ tables_1_1))) rfl, lw_g_of (List.mem_append_right _ (List.mem_append_right _ (List.mem_append_left _ (List.mem_of_getElem? (i := 216) rfl : _ ∈ tables_1_2)))) rfl⟩, rfl, by decide, by decide, rfl⟩
theorem cl_30 : CSV RL 30 RX12 yX12_boot cX12_boot 4 (some .int) 1 := ⟨⟨lw_g_of (List.mem_append_right _ (List.mem_append_right _ (List.mem_append_right _ (List.mem_append_right _ (List.mem_append_right _ (List.mem_append_right _ (List.mem_append_left _ (List.mem_of_getElem? (i := 208) rfl : _ ∈ tables_1_6)))))))) rfl, lw_g_of (List.mem_append_right _ (List.mem_append_right _ (List.mem_append_right _ (List.mem_append_right _ (List.mem_append_right _ (List.mem_append_right _ (List.mem_append_left _ (List.mem_of_getElem? (i := 209) rfl : _ ∈ tables_1_6)))))))) rfl, lw_g_of (List.mem_append_right _ (List.mem_append_right _ (List.mem_append_right _ (List.mem_append_right _ (List.mem_append_right _ (List.mem_append_right _ (List.mem_append_left _ (List.mem_of_getElem? (i := 210) rfl : _ ∈ tables_1_6)))))))) rfl, lw_g_of (List.mem_append_right _ (List.mem_append_left _ (List.mem_of_getElem? (i := 11) rfl : _ ∈ tables_1_1))) rfl, lw_g_of (List.mem_append_right _ (List.mem_append_right _ (List.mem_append_right _ (List.mem_append_right _ (List.mem_append_right _ (List.mem_append_right _ (List.mem_append_left _ (List.mem_of_getElem? (i := 211) rfl : _ ∈ tables_1_6)))))))) rfl⟩, rfl, by decide, by decide, rfl⟩
theorem cl_31 : CSV RL 31 RX11 yX11_place cX11_place 1 (some .int) 0 := ⟨⟨lw_g_of (List.mem_append_right _ (List.mem_append_right _ (List.mem_append_right _ (List.mem_append_left _ (List.mem_of_getElem? (i := 153) rfl : _ ∈ tables_1_3))))) rfl, lw_g_of (List.mem_append_right _ (List.mem_append_right _ (List.mem_append_right _ (List.mem_append_left _ (List.mem_of_getElem? (i := 154) rfl : _ ∈ tables_1_3))))) rfl, lw_g_of (List.mem_append_right _ (List.mem_append_right _ (List.mem_append_right _ (List.mem_append_left _ (List.mem_of_getElem? (i := 155) rfl : _ ∈ tables_1_3))))) rfl, lw_g_of (List.mem_append_right _ (List.mem_append_left _ (List.mem_of_getElem? (i := 1) rfl : _ ∈ tables_1_1))) rfl, lw_g_of (List.mem_append_right _ (List.mem_append_right _ (List.mem_append_right _ (List.mem_append_left _ (List.mem_of_getElem? (i := 156) rfl : _ ∈ tables_1_3))))) rfl⟩, rfl, by decide, by decide, rfl⟩
theorem cl_35 : CSV RL 35 RX12 yX12_place cX12_place 1 (some .int) 0 := ⟨⟨lw_g_of (List.mem_append_right _ (List.mem_append_right _ (List.mem_append_right _ (List.mem_append_right _ (List.mem_append_right _ (List.mem_append_right _ (List.mem_append_right _ (List.mem_append_left _ (List.mem_of_getElem? (i := 25) rfl : _ ∈ tables_1_7))))))))) rfl, lw_g_of (List.mem_append_right _ (List.mem_append_right _ (List.mem_append_right _ (List.mem_append_right _ (List.mem_append_right _ (List.mem_append_right _ (List.mem_append_right _ (List.mem_append_left _ (List.mem_of_getElem? (i := 26) rfl : _ ∈ tables_1_7))))))))) rfl, lw_g_of (List.mem_append_right _ (List.mem_append_right _ (List.mem_append_right _ (List.mem_append_right _ (List.mem_append_right _ (List.mem_append_right _ (List.mem_append_right _ (List.mem_append_left _ (List.mem_of_getElem? (i := 27) rfl : _ ∈ tables_1_7))))))))) rfl, lw_g_of (List.mem_append_right _ (List.mem_append_left _ (List.mem_of_getElem? (i := 11) rfl : _ ∈ tables_1_1))) rfl, lw_g_of (List.mem_append_right _ (List.mem_append_right _ (List.mem_append_right _ (List.mem_append_right _ (List.mem_append_right _ (List.mem_append_right _ (List.mem_append_right _ (List.mem_append_left _ (List.mem_of_getElem? (i := 28) rfl : _ ∈ tables_1_7))))))))) rfl⟩, rfl, by decide, by decide, rfl⟩
theorem cl_36 : CSV RL 36 RX11 yX11_run cX11_run 3 (some .int) 1 := ⟨⟨lw_g_of (List.mem_append_right _ (List.mem_append_right _ (List.mem_append_right _ (List.mem_append_left _ (List.mem_of_getElem? (i := 157) rfl : _ ∈ tables_1_3))))) rfl, lw_g_of (List.mem_append_right _ (List.mem_append_right _ (List.mem_append_right _ (List.mem_append_left _ (List.mem_of_getElem? (i := 158) rfl : _ ∈ tables_1_3))))) rfl, lw_g_of (List.mem_append_right _ (List.mem_append_right _ (List.mem_append_right _ (List.mem_append_left _ (List.mem_of_getElem? (i := 159) rfl : _ ∈ tables_1_3))))) rfl, lw_g_of (List.mem_append_right _ (List.mem_append_left _ (List.mem_of_getElem? (i := 1) rfl : _ ∈ tables_1_1))) rfl, lw_g_of (List.mem_append_right _ (List.mem_append_right _ (List.mem_append_right _ (List.mem_append_left _ (List.mem_of_getElem? (i := 160) rfl : _ ∈ tables_1_3))))) rfl⟩, rfl, by decide, by decide, rfl⟩
theorem cl_39 : CSV RL 39 RX12 yX12_run cX12_run 3 (some .int) 1 := ⟨⟨lw_g_of (List.mem_append_right _ (List.mem_append_right _ (List.mem_append_right _ (List.mem_append_right _ (List.mem_append_right _ (List.mem_append_right _ (List.mem_append_right _ (List.mem_append_left _ (List.mem_of_getElem? (i := 29) rfl : _ ∈ tables_1_7))))))))) rfl, lw_g_of (List.mem_append_right _ (List.mem_append_right _ (List.mem_append_right _ (List.mem_append_right _ (List.mem_append_right _ (List.mem_append_right _ (List.mem_append_right _ (List.mem_append_left _ (List.mem_of_getElem? (i := 30) rfl : _ ∈ tables_1_7))))))))) rfl, lw_g_of (List.mem_append_right _ (List.mem_append_right _ (List.mem_append_right _ (List.mem_append_right _ (List.mem_append_right _ (List.mem_append_right _ (List.mem_append_right _ (List.mem_append_left _ (List.mem_of_getElem? (i := 31) rfl : _ ∈ tables_1_7))))))))) rfl, lw_g_of (List.mem_append_right _ (List.mem_append_left _ (List.mem_of_getElem? (i := 11) rfl : _ ∈ tables_1_1))) rfl, lw_g_of (List.mem_append_right _ (List.mem_append_right _ (List.mem_append_right _ (List.mem_append_right _ (List.mem_append_right _ (List.mem_append_right _ (List.mem_append_right _ (List.mem_append_left _ (List.mem_of_getElem? (i := 32) rfl : _ ∈ tables_1_7))))))))) rfl⟩, rfl, by decide, by decide, rfl⟩
theorem cl_40 : CSV RL 40 RX11 yX11_input cX11_input 2 (some .boolean) 1 := ⟨⟨lw_g_of (List.mem_append_right _ (List.mem_append_right _ (List.mem_append_right _ (List.mem_append_right _ (List.mem_append_right _ (List.mem_append_left _ (List.mem_of_getElem? (i := 94) rfl : _ ∈ tables_1_5))))))) rfl, lw_g_of (List.mem_append_right _ (List.mem_append_right _ (List.mem_append_right _ (List.mem_append_right _ (List.mem_append_right _ (List.mem_append_left _ (List.mem_of_getElem? (i := 95) rfl : _ ∈ tables_1_5))))))) rfl, lw_g_of (List.mem_append_right _ (List.mem_append_right _ (List.mem_append_right _ (List.mem_append_right _ (List.mem_append_right _ (List.mem_append_left _ (List.mem_of_getElem? (i := 96) rfl : _ ∈ tables_1_5))))))) rfl, lw_g_of (List.mem_append_right _ (List.mem_append_left _ (List.mem_of_getElem? (i := 1) rfl : _ ∈ tables_1_1))) rfl, lw_g_of (List.mem_append_right _ (List.mem_append_right _ (List.mem_append_right _ (List.mem_append_right _ (List.mem_append_right _ (List.mem_append_left _ (List.mem_of_getElem? (i := 97) rfl : _ ∈ tables_1_5))))))) rfl⟩, rfl, by decide, by decide, rfl⟩
theorem cl_44 : CSV RL 44 RX12 yX12_input cX12_input 2 (some .boolean) 1 := ⟨⟨lw_g_of (List.mem_append_right _ (List.mem_append_right _ (List.mem_append_right _ (List.mem_append_right _ (List.mem_append_right _ (List.mem_append_right _ (List.mem_append_right _ (List.mem_append_right _ ((List.mem_of_getElem? (i := 33) rfl : _ ∈ tables_1_8)))))))))) rfl, lw_g_of (List.mem_append_right _ (List.mem_append_right _ (List.mem_append_right _ (List.mem_append_right _ (List.mem_append_right _ (List.mem_append_right _ (List.mem_append_right _ (List.mem_append_right _ ((List.mem_of_getElem? (i := 34) rfl : _ ∈ tables_1_8)))))))))) rfl, lw_g_of (List.mem_append_right _ (List.mem_append_right _ (List.mem_append_right _ (List.mem_append_right _ (List.mem_append_right _ (List.mem_append_right _ (List.mem_append_right _ (List.mem_append_right _ ((List.mem_of_getElem? (i := 35) rfl : _ ∈ tables_1_8)))))))))) rfl, lw_g_of (List.mem_append_right _ (List.mem_append_left _ (List.mem_of_getElem? (i := 11) rfl : _ ∈ tables_1_1))) rfl, lw_g_of (List.mem_append_right _ (List.mem_append_right _ (List.mem_append_right _ (List.mem_append_right _ (List.mem_append_right _ (List.mem_append_right _ (List.mem_append_right _ (List.mem_append_right _ ((List.mem_of_getElem? (i := 36) rfl : _ ∈ tables_1_8)))))))))) rfl⟩, rfl, by decide, by decide, rfl⟩
theorem cl_45 : CSV RL 45 RX11 yX11_fetch cX11_fetch 5 (some .long) 0 := ⟨⟨lw_g_of (List.mem_append_right _ (List.mem_append_right _ (List.mem_append_right _ (List.mem_append_right _ (List.mem_append_right _ (List.mem_append_left _ (List.mem_of_getElem? (i := 99) rfl : _ ∈ tables_1_5))))))) rfl, lw_g_of (List.mem_append_right _ (List.mem_append_right _ (List.mem_append_right _ (List.mem_append_right _ (List.mem_append_right _ (List.mem_append_left _ (List.mem_of_getElem? (i := 100) rfl : _ ∈ tables_1_5))))))) rfl, lw_g_of (List.mem_append_right _ (List.mem_append_right _ (List.mem_append_right _ (List.mem_append_right _ (List.mem_append_right _ (List.mem_append_left _ (List.mem_of_getElem? (i := 101) rfl : _ ∈ tables_1_5))))))) rfl, lw_g_of (List.mem_append_right _ (List.mem_append_left _ (List.mem_of_getElem? (i := 1) rfl : _ ∈ tables_1_1))) rfl, lw_g_of (List.mem_append_right _ (List.mem_append_right _ (List.mem_append_right _ (List.mem_append_right _ (List.mem_append_right _ (List.mem_append_left _ (List.mem_of_getElem? (i := 102) rfl : _ ∈ tables_1_5))))))) rfl⟩, rfl, by decide, by decide, rfl⟩
theorem cl_49 : CSV RL 49 RX12 yX12_fetch cX12_fetch 5 (some .long) 0 := ⟨⟨lw_g_of (List.mem_append_right _ (List.mem_append_right _ (List.mem_append_right _ (List.mem_append_right _ (List.mem_append_right _ (List.mem_append_right _ (List.mem_append_right _ (List.mem_append_right _ ((List.mem_of_getElem? (i := 37) rfl : _ ∈ tables_1_8)))))))))) rfl, lw_g_of (List.mem_append_right _ (List.mem_append_right _ (List.mem_append_right _ (List.mem_append_right _ (List.mem_append_right _ (List.mem_append_right _ (List.mem_append_right _ (List.mem_append_right _ ((List.mem_of_getElem? (i := 38) rfl : _ ∈ tables_1_8)))))))))) rfl, lw_g_of (List.mem_append_right _ (List.mem_append_right _ (List.mem_append_right _ (List.mem_append_right _ (List.mem_append_right _ (List.mem_append_right _ (List.mem_append_right _ (List.mem_append_right _ ((List.mem_of_getElem? (i := 39) rfl : _ ∈ tables_1_8)))))))))) rfl, lw_g_of (List.mem_append_right _ (List.mem_append_left _ (List.mem_of_getElem? (i := 11) rfl : _ ∈ tables_1_1))) rfl, lw_g_of (List.mem_append_right _ (List.mem_append_right _ (List.mem_append_right _ (List.mem_append_right _ (List.mem_append_right _ (List.mem_append_right _ (List.mem_append_right _ (List.mem_append_right _ ((List.mem_of_getElem? (i := 40) rfl : _ ∈ tables_1_8)))))))))) rfl⟩, rfl, by decide, by decide, rfl⟩
theorem cl_50 : CSV RL 50 RX11 yX11_register cX11_register 5 (some .long) 3 := ⟨⟨lw_g_of (List.mem_append_right _ (List.mem_append_right _ (List.mem_append_right _ (List.mem_append_right _ (List.mem_append_right _ (List.mem_append_left _ (List.mem_of_getElem? (i := 105) rfl : _ ∈ tables_1_5))))))) rfl, lw_g_of (List.mem_append_right _ (List.mem_append_right _ (List.mem_append_right _ (List.mem_append_right _ (List.mem_append_right _ (List.mem_append_left _ (List.mem_of_getElem? (i := 106) rfl : _ ∈ tables_1_5))))))) rfl, lw_g_of (List.mem_append_right _ (List.mem_append_right _ (List.mem_append_right _ (List.mem_append_right _ (List.mem_append_right _ (List.mem_append_left _ (List.mem_of_getElem? (i := 107) rfl : _ ∈ tables_1_5))))))) rfl, lw_g_of (List.mem_append_right _ (List.mem_append_left _ (List.mem_of_getElem? (i := 1) rfl : _ ∈ tables_1_1))) rfl, lw_g_of (List.mem_append_right _ (List.mem_append_right _ (List.mem_append_right _ (List.mem_append_right _ (List.mem_append_right _ (List.mem_append_left _ (List.mem_of_getElem? (i := 108) rfl : _ ∈ tables_1_5))))))) rfl⟩, rfl, by decide, by decide, rfl⟩
theorem cl_54 : CSV RL 54 RX12 yX12_register cX12_register 5 (some .long) 3 := ⟨⟨lw_g_of (List.mem_append_right _ (List.mem_append_right _ (List.mem_append_right _ (List.mem_append_right _ (List.mem_append_right _ (List.mem_append_right _ (List.mem_append_right _ (List.mem_append_right _ ((List.mem_of_getElem? (i := 41) rfl : _ ∈ tables_1_8)))))))))) rfl, lw_g_of (List.mem_append_right _ (List.mem_append_right _ (List.mem_append_right _ (List.mem_append_right _ (List.mem_append_right _ (List.mem_append_right _ (List.mem_append_right _ (List.mem_append_right _ ((List.mem_of_getElem? (i := 42) rfl : _ ∈ tables_1_8)))))))))) rfl, lw_g_of (List.mem_append_right _ (List.mem_append_right _ (List.mem_append_right _ (List.mem_append_right _ (List.mem_append_right _ (List.mem_append_right _ (List.mem_append_right _ (List.mem_append_right _ ((List.mem_of_getElem? (i := 43) rfl : _ ∈ tables_1_8)))))))))) rfl, lw_g_of (List.mem_append_right _ (List.mem_append_left _ (List.mem_of_getElem? (i := 11) rfl : _ ∈ tables_1_1))) rfl, lw_g_of (List.mem_append_right _ (List.mem_append_right _ (List.mem_append_right _ (List.mem_append_right _ (List.mem_append_right _ (List.mem_append_right _ (List.mem_append_right _ (List.mem_append_right _ ((List.mem_of_getElem? (i := 44) rfl : _ ∈ tables_1_8)))))))))) rfl⟩, rfl, by decide, by decide, rfl⟩
theorem cl_55 : CSV RL 55 RX11 yX11_memory cX11_memory 3 (some .long) 2 := ⟨⟨lw_g_of (List.mem_append_right _ (List.mem_append_right _ (List.mem_append_right _ (List.mem_append_right _ (List.mem_append_right _ (List.mem_append_left _ (List.mem_of_getElem? (i := 117) rfl : _ ∈ tables_1_5))))))) rfl, lw_g_of (List.mem_append_right _ (List.mem_append_right _ (List.mem_append_right _ (List.mem_append_right _ (List.mem_append_right _ (List.mem_append_left _ (List.mem_of_getElem? (i := 118) rfl : _ ∈ tables_1_5))))))) rfl, lw_g_of (List.mem_append_right _ (List.mem_append_right _ (List.mem_append_right _ (List.mem_append_right _ (List.mem_append_right _ (List.mem_append_left _ (List.mem_of_getElem? (i := 119) rfl : _ ∈ tables_1_5))))))) rfl, lw_g_of (List.mem_append_right _ (List.mem_append_left _ (List.mem_of_getElem? (i := 1) rfl : _ ∈ tables_1_1))) rfl, lw_g_of (List.mem_append_right _ (List.mem_append_right _ (List.mem_append_right _ (List.mem_append_right _ (List.mem_append_right _ (List.mem_append_left _ (List.mem_of_getElem? (i := 120) rfl : _ ∈ tables_1_5))))))) rfl⟩, rfl, by decide, by decide, rfl⟩
theorem cl_59 : CSV RL 59 RX12 yX12_memory cX12_memory 3 (some .long) 2 := ⟨⟨lw_g_of (List.mem_append_right _ (List.mem_append_right _ (List.mem_append_right _ (List.mem_append_right _ (List.mem_append_right _ (List.mem_append_right _ (List.mem_append_right _ (List.mem_append_right _ ((List.mem_of_getElem? (i := 46) rfl : _ ∈ tables_1_8)))))))))) rfl, lw_g_of (List.mem_append_right _ (List.mem_append_right _ (List.mem_append_right _ (List.mem_append_right _ (List.mem_append_right _ (List.mem_append_right _ (List.mem_append_right _ (List.mem_append_right _ ((List.mem_of_getElem? (i := 47) rfl : _ ∈ tables_1_8)))))))))) rfl, lw_g_of (List.mem_append_right _ (List.mem_append_right _ (List.mem_append_right _ (List.mem_append_right _ (List.mem_append_right _ (List.mem_append_right _ (List.mem_append_right _ (List.mem_append_right _ ((List.mem_of_getElem? (i := 48) rfl : _ ∈ tables_1_8)))))))))) rfl, lw_g_of (List.mem_append_right _ (List.mem_append_left _ (List.mem_of_getElem? (i := 11) rfl : _ ∈ tables_1_1))) rfl, lw_g_of (List.mem_append_right _ (List.mem_append_right _ (List.mem_append_right _ (List.mem_append_right _ (List.mem_append_right _ (List.mem_append_right _ (List.mem_append_right _ (List.mem_append_right _ ((List.mem_of_getElem? (i := 49) rfl : _ ∈ tables_1_8)))))))))) rfl⟩, rfl, by decide, by decide, rfl⟩
theorem cl_60 : CSV RL 60 RX11 yX11_tag cX11_tag 2 (some .int) 1 := ⟨⟨lw_g_of (List.mem_append_right _ (List.mem_append_right _ (List.mem_append_right _ (List.mem_append_right _ (List.mem_append_right _ (List.mem_append_left _ (List.mem_of_getElem? (i := 124) rfl : _ ∈ tables_1_5))))))) rfl, lw_g_of (List.mem_append_right _ (List.mem_append_right _ (List.mem_append_right _ (List.mem_append_right _ (List.mem_append_right _ (List.mem_append_left _ (List.mem_of_getElem? (i := 125) rfl : _ ∈ tables_1_5))))))) rfl, lw_g_of (List.mem_append_right _ (List.mem_append_right _ (List.mem_append_right _ (List.mem_append_right _ (List.mem_append_right _ (List.mem_append_left _ (List.mem_of_getElem? (i := 126) rfl : _ ∈ tables_1_5))))))) rfl, lw_g_of (List.mem_append_right _ (List.mem_append_left _ (List.mem_of_getElem? (i := 1) rfl : _ ∈ tables_1_1))) rfl, lw_g_of (List.mem_append_right _ (List.mem_append_right _ (List.mem_append_right _ (List.mem_append_right _ (List.mem_append_right _ (List.mem_append_left _ (List.mem_of_getElem? (i := 127) rfl : _ ∈ tables_1_5))))))) rfl⟩, rfl, by decide, by decide, rfl⟩
theorem cl_63 : CSV RL 63 RX12 yX12_tag cX12_tag 2 (some .int) 1 := ⟨⟨lw_g_of (List.mem_append_right _ (List.mem_append_right _ (List.mem_append_right _ (List.mem_append_right _ (List.mem_append_right _ (List.mem_append_right _ (List.mem_append_right _ (List.mem_append_right _ ((List.mem_of_getElem? (i := 50) rfl : _ ∈ tables_1_8)))))))))) rfl, lw_g_of (List.mem_append_right _ (List.mem_append_right _ (List.mem_append_right _ (List.mem_append_right _ (List.mem_append_right _ (List.mem_append_right _ (List.mem_append_right _ (List.mem_append_right _ ((List.mem_of_getElem? (i := 51) rfl : _ ∈ tables_1_8)))))))))) rfl, lw_g_of (List.mem_append_right _ (List.mem_append_right _ (List.mem_append_right _ (List.mem_append_right _ (List.mem_append_right _ (List.mem_append_right _ (List.mem_append_right _ (List.mem_append_right _ ((List.mem_of_getElem? (i := 52) rfl : _ ∈ tables_1_8)))))))))) rfl, lw_g_of (List.mem_append_right _ (List.mem_append_left _ (List.mem_of_getElem? (i := 11) rfl : _ ∈ tables_1_1))) rfl, lw_g_of (List.mem_append_right _ (List.mem_append_right _ (List.mem_append_right _ (List.mem_append_right _ (List.mem_append_right _ (List.mem_append_right _ (List.mem_append_right _ (List.mem_append_right _ ((List.mem_of_getElem? (i := 53) rfl : _ ∈ tables_1_8)))))))))) rfl⟩, rfl, by decide, by decide, rfl⟩
theorem cl_64 : CSV RL 64 RX11 yX11_thread cX11_thread 4 (some .int) 2 := ⟨⟨lw_g_of (List.mem_append_right _ (List.mem_append_right _ (List.mem_append_right _ (List.mem_append_right _ (List.mem_append_right _ (List.mem_append_left _ (List.mem_of_getElem? (i := 128) rfl : _ ∈ tables_1_5))))))) rfl, lw_g_of (List.mem_append_right _ (List.mem_append_right _ (List.mem_append_right _ (List.mem_append_right _ (List.mem_append_right _ (List.mem_append_left _ (List.mem_of_getElem? (i := 129) rfl : _ ∈ tables_1_5))))))) rfl, lw_g_of (List.mem_append_right _ (List.mem_append_right _ (List.mem_append_right _ (List.mem_append_right _ (List.mem_append_right _ (List.mem_append_left _ (List.mem_of_getElem? (i := 130) rfl : _ ∈ tables_1_5))))))) rfl, lw_g_of (List.mem_append_right _ (List.mem_append_left _ (List.mem_of_getElem? (i := 1) rfl : _ ∈ tables_1_1))) rfl, lw_g_of (List.mem_append_right _ (List.mem_append_right _ (List.mem_append_right _ (List.mem_append_right _ (List.mem_append_right _ (List.mem_append_left _ (List.mem_of_getElem? (i := 131) rfl : _ ∈ tables_1_5))))))) rfl⟩, rfl, by decide, by decide, rfl⟩
theorem cl_68 : CSV RL 68 RX12 yX12_thread cX12_thread 3 (some .int) 2 := ⟨⟨lw_g_of (List.mem_append_right _ (List.mem_append_right _ (List.mem_append_right _ (List.mem_append_right _ (List.mem_append_right _ (List.mem_append_right _ (List.mem_append_right _ (List.mem_append_right _ ((List.mem_of_getElem? (i := 54) rfl : _ ∈ tables_1_8)))))))))) rfl, lw_g_of (List.mem_append_right _ (List.mem_append_right _ (List.mem_append_right _ (List.mem_append_right _ (List.mem_append_right _ (List.mem_append_right _ (List.mem_append_right _ (List.mem_append_right _ ((List.mem_of_getElem? (i := 55) rfl : _ ∈ tables_1_8)))))))))) rfl, lw_g_of (List.mem_append_right _ (List.mem_append_right _ (List.mem_append_right _ (List.mem_append_right _ (List.mem_append_right _ (List.mem_append_right _ (List.mem_append_right _ (List.mem_append_right _ ((List.mem_of_getElem? (i := 56) rfl : _ ∈ tables_1_8)))))))))) rfl, lw_g_of (List.mem_append_right _ (List.mem_append_left _ (List.mem_of_getElem? (i := 11) rfl : _ ∈ tables_1_1))) rfl, lw_g_of (List.mem_append_right _ (List.mem_append_right _ (List.mem_append_right _ (List.mem_append_right _ (List.mem_append_right _ (List.mem_append_right _ (List.mem_append_right _ (List.mem_append_right _ ((List.mem_of_getElem? (i := 57) rfl : _ ∈ tables_1_8)))))))))) rfl⟩, rfl, by decide, by decide, rfl⟩
theorem cl_69 : CSV RL 69 RX11 yX11_compartment cX11_compartment 4 (some .int) 2 := ⟨⟨lw_g_of (List.mem_append_right _ (List.mem_append_right _ (List.mem_append_right _ (List.mem_append_right _ (List.mem_append_right _ (List.mem_append_left _ (List.mem_of_getElem? (i := 136) rfl : _ ∈ tables_1_5))))))) rfl, lw_g_of (List.mem_append_right _ (List.mem_append_right _ (List.mem_append_right _ (List.mem_append_right _ (List.mem_append_right _ (List.mem_append_left _ (List.mem_of_getElem? (i := 137) rfl : _ ∈ tables_1_5))))))) rfl, lw_g_of (List.mem_append_right _ (List.mem_append_right _ (List.mem_append_right _ (List.mem_append_right _ (List.mem_append_right _ (List.mem_append_left _ (List.mem_of_getElem? (i := 138) rfl : _ ∈ tables_1_5))))))) rfl, lw_g_of (List.mem_append_right _ (List.mem_append_left _ (List.mem_of_getElem? (i := 1) rfl : _ ∈ tables_1_1))) rfl, lw_g_of (List.mem_append_right _ (List.mem_append_right _ (List.mem_append_right _ (List.mem_append_right _ (List.mem_append_right _ (List.mem_append_left _ (List.mem_of_getElem? (i := 139) rfl : _ ∈ tables_1_5))))))) rfl⟩, rfl, by decide, by decide, rfl⟩
theorem cl_72 : CSV RL 72 RX12 yX12_compartment cX12_compartment 3 (some .int) 2 := ⟨⟨lw_g_of (List.mem_append_right _ (List.mem_append_right _ (List.mem_append_right _ (List.mem_append_right _ (List.mem_append_right _ (List.mem_append_right _ (List.mem_append_right _ (List.mem_append_right _ ((List.mem_of_getElem? (i := 58) rfl : _ ∈ tables_1_8)))))))))) rfl, lw_g_of (List.mem_append_right _ (List.mem_append_right _ (List.mem_append_right _ (List.mem_append_right _ (List.mem_append_right _ (List.mem_append_right _ (List.mem_append_right _ (List.mem_append_right _ ((List.mem_of_getElem? (i := 59) rfl : _ ∈ tables_1_8)))))))))) rfl, lw_g_of (List.mem_append_right _ (List.mem_append_right _ (List.mem_append_right _ (List.mem_append_right _ (List.mem_append_right _ (List.mem_append_right _ (List.mem_append_right _ (List.mem_append_right _ ((List.mem_of_getElem? (i := 60) rfl : _ ∈ tables_1_8)))))))))) rfl, lw_g_of (List.mem_append_right _ (List.mem_append_left _ (List.mem_of_getElem? (i := 11) rfl : _ ∈ tables_1_1))) rfl, lw_g_of (List.mem_append_right _ (List.mem_append_right _ (List.mem_append_right _ (List.mem_append_right _ (List.mem_append_right _ (List.mem_append_right _ (List.mem_append_right _ (List.mem_append_right _ ((List.mem_of_getElem? (i := 61) rfl : _ ∈ tables_1_8)))))))))) rfl⟩, rfl, by decide, by decide, rfl⟩
theorem cl_73 : CSV RL 73 RX11 yX11_heap cX11_heap 2 (some .int) 1 := ⟨⟨lw_g_of (List.mem_append_right _ (List.mem_append_right _ (List.mem_append_right _ (List.mem_append_right _ (List.mem_append_right _ (List.mem_append_left _ (List.mem_of_getElem? (i := 145) rfl : _ ∈ tables_1_5))))))) rfl, lw_g_of (List.mem_append_right _ (List.mem_append_right _ (List.mem_append_right _ (List.mem_append_right _ (List.mem_append_right _ (List.mem_append_left _ (List.mem_of_getElem? (i := 146) rfl : _ ∈ tables_1_5))))))) rfl, lw_g_of (List.mem_append_right _ (List.mem_append_right _ (List.mem_append_right _ (List.mem_append_right _ (List.mem_append_right _ (List.mem_append_left _ (List.mem_of_getElem? (i := 147) rfl : _ ∈ tables_1_5))))))) rfl, lw_g_of (List.mem_append_right _ (List.mem_append_left _ (List.mem_of_getElem? (i := 1) rfl : _ ∈ tables_1_1))) rfl, lw_g_of (List.mem_append_right _ (List.mem_append_right _ (List.mem_append_right _ (List.mem_append_right _ (List.mem_append_right _ (List.mem_append_left _ (List.mem_of_getElem? (i := 148) rfl : _ ∈ tables_1_5))))))) rfl⟩, rfl, by decide, by decide, rfl⟩
theorem cl_76 : CSV RL 76 RX12 yX12_heap cX12_heap 7 (some .int) 1 := ⟨⟨lw_g_of (List.mem_append_right _ (List.mem_append_right _ (List.mem_append_right _ (List.mem_append_right _ (List.mem_append_right _ (List.mem_append_right _ (List.mem_append_right _ (List.mem_append_right _ ((List.mem_of_getElem? (i := 62) rfl : _ ∈ tables_1_8)))))))))) rfl, lw_g_of (List.mem_append_right _ (List.mem_append_right _ (List.mem_append_right _ (List.mem_append_right _ (List.mem_append_right _ (List.mem_append_right _ (List.mem_append_right _ (List.mem_append_right _ ((List.mem_of_getElem? (i := 63) rfl : _ ∈ tables_1_8)))))))))) rfl, lw_g_of (List.mem_append_right _ (List.mem_append_right _ (List.mem_append_right _ (List.mem_append_right _ (List.mem_append_right _ (List.mem_append_right _ (List.mem_append_right _ (List.mem_append_right _ ((List.mem_of_getElem? (i := 64) rfl : _ ∈ tables_1_8)))))))))) rfl, lw_g_of (List.mem_append_right _ (List.mem_append_left _ (List.mem_of_getElem? (i := 11) rfl : _ ∈ tables_1_1))) rfl, lw_g_of (List.mem_append_right _ (List.mem_append_right _ (List.mem_append_right _ (List.mem_append_right _ (List.mem_append_right _ (List.mem_append_right _ (List.mem_append_right _ (List.mem_append_right _ ((List.mem_of_getElem? (i := 65) rfl : _ ∈ tables_1_8)))))))))) rfl⟩, rfl, by decide, by decide, rfl⟩
theorem cl_77 : CSV RL 77 RX11 yX11_count cX11_count 2 (some .int) 1 := ⟨⟨lw_g_of (List.mem_append_right _ (List.mem_append_right _ (List.mem_append_right _ (List.mem_append_right _ (List.mem_append_right _ (List.mem_append_left _ (List.mem_of_getElem? (i := 158) rfl : _ ∈ tables_1_5))))))) rfl, lw_g_of (List.mem_append_right _ (List.mem_append_right _ (List.mem_append_right _ (List.mem_append_right _ (List.mem_append_right _ (List.mem_append_left _ (List.mem_of_getElem? (i := 159) rfl : _ ∈ tables_1_5))))))) rfl, lw_g_of (List.mem_append_right _ (List.mem_append_right _ (List.mem_append_right _ (List.mem_append_right _ (List.mem_append_right _ (List.mem_append_left _ (List.mem_of_getElem? (i := 160) rfl : _ ∈ tables_1_5))))))) rfl, lw_g_of (List.mem_append_right _ (List.mem_append_left _ (List.mem_of_getElem? (i := 1) rfl : _ ∈ tables_1_1))) rfl, lw_g_of (List.mem_append_right _ (List.mem_append_right _ (List.mem_append_right _ (List.mem_append_right _ (List.mem_append_right _ (List.mem_append_left _ (List.mem_of_getElem? (i := 161) rfl : _ ∈ tables_1_5))))))) rfl⟩, rfl, by decide, by decide, rfl⟩
theorem cl_80 : CSV RL 80 RX12 yX12_count cX12_count 2 (some .int) 1 := ⟨⟨lw_g_of (List.mem_append_right _ (List.mem_append_right _ (List.mem_append_right _ (List.mem_append_right _ (List.mem_append_right _ (List.mem_append_right _ (List.mem_append_right _ (List.mem_append_right _ ((List.mem_of_getElem? (i := 66) rfl : _ ∈ tables_1_8)))))))))) rfl, lw_g_of (List.mem_append_right _ (List.mem_append_right _ (List.mem_append_right _ (List.mem_append_right _ (List.mem_append_right _ (List.mem_append_right _ (List.mem_append_right _ (List.mem_append_right _ ((List.mem_of_getElem? (i := 67) rfl : _ ∈ tables_1_8)))))))))) rfl, lw_g_of (List.mem_append_right _ (List.mem_append_right _ (List.mem_append_right _ (List.mem_append_right _ (List.mem_append_right _ (List.mem_append_right _ (List.mem_append_right _ (List.mem_append_right _ ((List.mem_of_getElem? (i := 68) rfl : _ ∈ tables_1_8)))))))))) rfl, lw_g_of (List.mem_append_right _ (List.mem_append_left _ (List.mem_of_getElem? (i := 11) rfl : _ ∈ tables_1_1))) rfl, lw_g_of (List.mem_append_right _ (List.mem_append_right _ (List.mem_append_right _ (List.mem_append_right _ (List.mem_append_right _ (List.mem_append_right _ (List.mem_append_right _ (List.mem_append_right _ ((List.mem_of_getElem? (i := 69) rfl : _ ∈ tables_1_8)))))))))) rfl⟩, rfl, by decide, by decide, rfl⟩
theorem cl_81 : CSV RL 81 RX11 yX11_broken cX11_broken 2 (some .int) 1 := ⟨⟨lw_g_of (List.mem_append_right _ (List.mem_append_right _ (List.mem_append_right _ (List.mem_append_right _ (List.mem_append_right _ (List.mem_append_left _ (List.mem_of_getElem? (i := 166) rfl : _ ∈ tables_1_5))))))) rfl, lw_g_of (List.mem_append_right _ (List.mem_append_right _ (List.mem_append_right _ (List.mem_append_right _ (List.mem_append_right _ (List.mem_append_left _ (List.mem_of_getElem? (i := 167) rfl : _ ∈ tables_1_5))))))) rfl, lw_g_of (List.mem_append_right _ (List.mem_append_right _ (List.mem_append_right _ (List.mem_append_right _ (List.mem_append_right _ (List.mem_append_left _ (List.mem_of_getElem? (i := 168) rfl : _ ∈ tables_1_5))))))) rfl, lw_g_of (List.mem_append_right _ (List.mem_append_left _ (List.mem_of_getElem? (i := 1) rfl : _ ∈ tables_1_1))) rfl, lw_g_of (List.mem_append_right _ (List.mem_append_right _ (List.mem_append_right _ (List.mem_append_right _ (List.mem_append_right _ (List.mem_append_left _ (List.mem_of_getElem? (i := 169) rfl : _ ∈ tables_1_5))))))) rfl⟩, rfl, by decide, by decide, rfl⟩
theorem cl_84 : CSV RL 84 RX12 yX12_broken cX12_broken 4 (some .int) 1 := ⟨⟨lw_g_of (List.mem_append_right _ (List.mem_append_right _ (List.mem_append_right _ (List.mem_append_right _ (List.mem_append_right _ (List.mem_append_right _ (List.mem_append_right _ (List.mem_append_right _ ((List.mem_of_getElem? (i := 70) rfl : _ ∈ tables_1_8)))))))))) rfl, lw_g_of (List.mem_append_right _ (List.mem_append_right _ (List.mem_append_right _ (List.mem_append_right _ (List.mem_append_right _ (List.mem_append_right _ (List.mem_append_right _ (List.mem_append_right _ ((List.mem_of_getElem? (i := 71) rfl : _ ∈ tables_1_8)))))))))) rfl, lw_g_of (List.mem_append_right _ (List.mem_append_right _ (List.mem_append_right _ (List.mem_append_right _ (List.mem_append_right _ (List.mem_append_right _ (List.mem_append_right _ (List.mem_append_right _ ((List.mem_of_getElem? (i := 72) rfl : _ ∈ tables_1_8)))))))))) rfl, lw_g_of (List.mem_append_right _ (List.mem_append_left _ (List.mem_of_getElem? (i := 11) rfl : _ ∈ tables_1_1))) rfl, lw_g_of (List.mem_append_right _ (List.mem_append_right _ (List.mem_append_right _ (List.mem_append_right _ (List.mem_append_right _ (List.mem_append_right _ (List.mem_append_right _ (List.mem_append_right _ ((List.mem_of_getElem? (i := 73) rfl : _ ∈ tables_1_8)))))))))) rfl⟩, rfl, by decide, by decide, rfl⟩
theorem ll_gt {Ln i : Nat} (hLn : Ln ≤ 385) (h : Ln < i + 6) (hi : i ≤ 391) : nI Ln - 6 < nI i := by
  rw [Int32.lt_iff_toInt_lt, show (6 : Int32) = nI 6 from rfl, pk_sub_toInt (by omega) (by decide), nI_toInt (by omega)]
  omega
theorem ll_ngt {Ln i : Nat} (hLn : Ln ≤ 385) (h : ¬ Ln < i + 6) : ¬ nI Ln - 6 < nI i := by
  rw [Int32.lt_iff_toInt_lt, show (6 : Int32) = nI 6 from rfl, pk_sub_toInt (by omega) (by decide), nI_toInt (by omega)]
  omega
set_option maxRecDepth 100000 in
set_option maxHeartbeats 4000000 in
theorem law_loop {RR : Nat → Nat → HV → HV → Prop} (hsim : SIM RR) {Γ : Cx} {l : Launch} {D : va_G} {cy : Nat → ClassId} {b Ln : Nat} {xs : Nat → Int32} {bs kb : Nat} (hLn : Ln ≤ 385) : ∀ (k cn i : Nat) (V W : HV), i = 1 + 6 * cn → Ln ≤ i + k → i ≤ Ln + 6 → RR cn kb V W → AL Γ l D cy b Ln xs bs kb V W 28 [some (.ref b), some (.ref (bs + posC 9 0)), some (.ref (bs + 737 + posM 10 0)), some (.int (nI i))] [] := by
  obtain ⟨-, hmono, hs_feed, hs_boot, hs_place, hs_run, hs_input, hs_fetch, hs_register, hs_memory, hs_tag, hs_thread, hs_compartment, hs_heap, hs_count, hs_broken⟩ := hsim
  intro k
  induction k with
  | zero =>
    intro cn i V W hcn hk hi hR
    refine al_iload_n dL_law_28 rfl ?_
    refine al_aload_n dL_law_29 rfl ?_
    refine al_slen dL_law_30 ?_
    refine al_bipush (v := 6) dL_law_31 (by decide) ?_
    refine al_isub dL_law_33 ?_
    refine al_gt (tgt := 513) dL_law_34 (by decide) (fun _ => ?_) (fun h => absurd (ll_gt hLn (by omega) (by omega)) h)
    refine al_iconst (v := 1) dL_law_513 (by decide) ?_
    exact al_ret dL_law_514
  | succ k ih =>
    intro cn i V W hcn hk hi hR
    refine al_iload_n dL_law_28 rfl ?_
    refine al_aload_n dL_law_29 rfl ?_
    refine al_slen dL_law_30 ?_
    refine al_bipush (v := 6) dL_law_31 (by decide) ?_
    refine al_isub dL_law_33 ?_
    by_cases hlt : Ln < i + 6
    · refine al_gt (tgt := 513) dL_law_34 (by decide) (fun _ => ?_) (fun h => absurd (ll_gt hLn hlt (by omega)) h)
      refine al_iconst (v := 1) dL_law_513 (by decide) ?_
      exact al_ret dL_law_514
    refine al_gt (tgt := 513) dL_law_34 (by decide) (fun h => absurd h (ll_ngt hLn hlt)) (fun _ => ?_)
    have hc64 : cn < 64 := by omega
    have next : ∀ (V W : HV), RR (cn + 1) kb V W → AL Γ l D cy b Ln xs bs kb V W 507 [some (.ref b), some (.ref (bs + posC 9 0)), some (.ref (bs + 737 + posM 10 0)), some (.int (nI i))] [] := by
      intro V W hR
      refine al_iinc (v := nI (i + 6)) (L' := [some (.ref b), some (.ref (bs + posC 9 0)), some (.ref (bs + 737 + posM 10 0)), some (.int (nI (i + 6)))]) dL_law_507 rfl (nI_add i 6) (by decide) rfl ?_
      refine al_goto (tgt := 28) dL_law_510 (by decide) ?_
      exact ih (cn + 1) (i + 6) V W (by omega) (by omega) (by omega) hR
    refine al_aload_n dL_law_37 rfl ?_
    refine al_iload_n dL_law_38 rfl ?_
    refine al_sld (by omega) (by omega) dL_law_39 ?_
    refine al_bipush (v := 15) dL_law_40 (by decide) ?_
    refine al_iand dL_law_42 ?_
    obtain ⟨j, hj, hjx⟩ := pk_andE (xs i) (m := 15) 4 (by decide)
    rcases (show j = 0 ∨ j = 1 ∨ j = 2 ∨ j = 3 ∨ j = 4 ∨ j = 5 ∨ j = 6 ∨ j = 7 ∨ j = 8 ∨ j = 9 ∨ j = 10 ∨ j = 11 ∨ j = 12 ∨ j = 13 ∨ j = 14 ∨ j = 15 by omega) with rfl | rfl | rfl | rfl | rfl | rfl | rfl | rfl | rfl | rfl | rfl | rfl | rfl | rfl | rfl | rfl
    · refine al_tab (k0 := 0) (off := 69) (tgt := 112) hjx dL_law_43 (by decide) (by decide) (by decide) (by decide) ?_
      obtain ⟨r, V', W', h1, h2, hR'⟩ := hs_feed cn kb V W hc64 hR (xs (i + 1)) (xs (i + 2)) (xs (i + 3)) (xs (i + 4)) (xs (i + 5))
      refine al_aload_n dL_law_112 rfl ?_
      refine al_aload_n dL_law_113 rfl ?_
      refine al_iload_n dL_law_114 rfl ?_
      refine al_iconst (v := nI 1) dL_law_115 (by decide) ?_
      refine al_iadd dL_law_116 ?_
      refine al_sld (by omega) (by omega) dL_law_117 ?_
      refine al_aload_n dL_law_118 rfl ?_
      refine al_iload_n dL_law_119 rfl ?_
      refine al_iconst (v := nI 2) dL_law_120 (by decide) ?_
      refine al_iadd dL_law_121 ?_
      refine al_sld (by omega) (by omega) dL_law_122 ?_
      refine al_aload_n dL_law_123 rfl ?_
      refine al_iload_n dL_law_124 rfl ?_
      refine al_iconst (v := nI 3) dL_law_125 (by decide) ?_
      refine al_iadd dL_law_126 ?_
      refine al_sld (by omega) (by omega) dL_law_127 ?_
      refine al_aload_n dL_law_128 rfl ?_
      refine al_iload_n dL_law_129 rfl ?_
      refine al_iconst (v := nI 4) dL_law_130 (by decide) ?_
      refine al_iadd dL_law_131 ?_
      refine al_sld (by omega) (by omega) dL_law_132 ?_
      refine al_aload_n dL_law_133 rfl ?_
      refine al_iload_n dL_law_134 rfl ?_
      refine al_iconst (v := nI 5) dL_law_135 (by decide) ?_
      refine al_iadd dL_law_136 ?_
      refine al_sld (by omega) (by omega) dL_law_137 ?_
      refine al_callC (c_X11_feed 0 (xs (i + 1)) (xs (i + 2)) (xs (i + 3)) (xs (i + 4)) (xs (i + 5)) (by decide) h1) cl_21 rfl rfl (Nat.le_of_ble_eq_true rfl) ⟨by decide, by decide⟩ dL_law_138 ?_
      refine al_aload_n dL_law_141 rfl ?_
      refine al_aload_n dL_law_142 rfl ?_
      refine al_iload_n dL_law_143 rfl ?_
      refine al_iconst (v := nI 1) dL_law_144 (by decide) ?_
      refine al_iadd dL_law_145 ?_
      refine al_sld (by omega) (by omega) dL_law_146 ?_
      refine al_aload_n dL_law_147 rfl ?_
      refine al_iload_n dL_law_148 rfl ?_
      refine al_iconst (v := nI 2) dL_law_149 (by decide) ?_
      refine al_iadd dL_law_150 ?_
      refine al_sld (by omega) (by omega) dL_law_151 ?_
      refine al_aload_n dL_law_152 rfl ?_
      refine al_iload_n dL_law_153 rfl ?_
      refine al_iconst (v := nI 3) dL_law_154 (by decide) ?_
      refine al_iadd dL_law_155 ?_
      refine al_sld (by omega) (by omega) dL_law_156 ?_
      refine al_aload_n dL_law_157 rfl ?_
      refine al_iload_n dL_law_158 rfl ?_
      refine al_iconst (v := nI 4) dL_law_159 (by decide) ?_
      refine al_iadd dL_law_160 ?_
      refine al_sld (by omega) (by omega) dL_law_161 ?_
      refine al_aload_n dL_law_162 rfl ?_
      refine al_iload_n dL_law_163 rfl ?_
      refine al_iconst (v := nI 5) dL_law_164 (by decide) ?_
      refine al_iadd dL_law_165 ?_
      refine al_sld (by omega) (by omega) dL_law_166 ?_
      refine al_callM (c_X12_feed 0 (xs (i + 1)) (xs (i + 2)) (xs (i + 3)) (xs (i + 4)) (xs (i + 5)) (by decide) h2) cl_25 rfl rfl (Nat.le_of_ble_eq_true rfl) ⟨by decide, by decide⟩ dL_law_167 ?_
      refine al_eq (tgt := 507) dL_law_170 (by decide) ?_
      exact next V' W' hR'
    · refine al_tab (k0 := 1) (off := 132) (tgt := 175) hjx dL_law_43 (by decide) (by decide) (by decide) (by decide) ?_
      obtain ⟨r, V', W', h1, h2, hR'⟩ := hs_boot cn kb V W hc64 hR (xs (i + 1))
      refine al_aload_n dL_law_175 rfl ?_
      refine al_aload_n dL_law_176 rfl ?_
      refine al_iload_n dL_law_177 rfl ?_
      refine al_iconst (v := nI 1) dL_law_178 (by decide) ?_
      refine al_iadd dL_law_179 ?_
      refine al_sld (by omega) (by omega) dL_law_180 ?_
      refine al_callC (c_X11_boot 0 (xs (i + 1)) (by decide) h1) cl_26 rfl rfl (Nat.le_of_ble_eq_true rfl) ⟨by decide, by decide⟩ dL_law_181 ?_
      refine al_aload_n dL_law_184 rfl ?_
      refine al_aload_n dL_law_185 rfl ?_
      refine al_iload_n dL_law_186 rfl ?_
      refine al_iconst (v := nI 1) dL_law_187 (by decide) ?_
      refine al_iadd dL_law_188 ?_
      refine al_sld (by omega) (by omega) dL_law_189 ?_
      refine al_callM (c_X12_boot 0 (xs (i + 1)) (by decide) h2) cl_30 rfl rfl (Nat.le_of_ble_eq_true rfl) ⟨by decide, by decide⟩ dL_law_190 ?_
      refine al_eq (tgt := 507) dL_law_193 (by decide) ?_
      exact next V' W' hR'
    · refine al_tab (k0 := 2) (off := 155) (tgt := 198) hjx dL_law_43 (by decide) (by decide) (by decide) (by decide) ?_
      obtain ⟨r, h1, h2⟩ := hs_place cn kb V W hc64 hR 
      refine al_aload_n dL_law_198 rfl ?_
      refine al_callC (c_X11_place 0  (by decide) h1) cl_31 rfl rfl (Nat.le_of_ble_eq_true rfl) ⟨by decide, by decide⟩ dL_law_199 ?_
      refine al_aload_n dL_law_202 rfl ?_
      refine al_callM (c_X12_place 0  (by decide) h2) cl_35 rfl rfl (Nat.le_of_ble_eq_true rfl) ⟨by decide, by decide⟩ dL_law_203 ?_
      refine al_eq (tgt := 507) dL_law_206 (by decide) ?_
      exact next V W (hmono _ _ _ _ hR)
    · refine al_tab (k0 := 3) (off := 168) (tgt := 211) hjx dL_law_43 (by decide) (by decide) (by decide) (by decide) ?_
      obtain ⟨r, V', W', h1, h2, hR'⟩ := hs_run cn kb V W hc64 hR (xs (i + 1))
      refine al_aload_n dL_law_211 rfl ?_
      refine al_aload_n dL_law_212 rfl ?_
      refine al_iload_n dL_law_213 rfl ?_
      refine al_iconst (v := nI 1) dL_law_214 (by decide) ?_
      refine al_iadd dL_law_215 ?_
      refine al_sld (by omega) (by omega) dL_law_216 ?_
      refine al_callC (c_X11_run 0 (xs (i + 1)) (by decide) h1) cl_36 rfl rfl (Nat.le_of_ble_eq_true rfl) ⟨by decide, by decide⟩ dL_law_217 ?_
      refine al_aload_n dL_law_220 rfl ?_
      refine al_aload_n dL_law_221 rfl ?_
      refine al_iload_n dL_law_222 rfl ?_
      refine al_iconst (v := nI 1) dL_law_223 (by decide) ?_
      refine al_iadd dL_law_224 ?_
      refine al_sld (by omega) (by omega) dL_law_225 ?_
      refine al_callM (c_X12_run 0 (xs (i + 1)) (by decide) h2) cl_39 rfl rfl (Nat.le_of_ble_eq_true rfl) ⟨by decide, by decide⟩ dL_law_226 ?_
      refine al_eq (tgt := 507) dL_law_229 (by decide) ?_
      exact next V' W' hR'
    · refine al_tab (k0 := 4) (off := 191) (tgt := 234) hjx dL_law_43 (by decide) (by decide) (by decide) (by decide) ?_
      obtain ⟨r, V', W', h1, h2, hR'⟩ := hs_input cn kb V W hc64 hR (xs (i + 1))
      refine al_aload_n dL_law_234 rfl ?_
      refine al_aload_n dL_law_235 rfl ?_
      refine al_iload_n dL_law_236 rfl ?_
      refine al_iconst (v := nI 1) dL_law_237 (by decide) ?_
      refine al_iadd dL_law_238 ?_
      refine al_sld (by omega) (by omega) dL_law_239 ?_
      refine al_callC (c_X11_input 0 (xs (i + 1)) (by decide) h1) cl_40 rfl rfl (Nat.le_of_ble_eq_true rfl) ⟨by decide, by decide⟩ dL_law_240 ?_
      refine al_aload_n dL_law_243 rfl ?_
      refine al_aload_n dL_law_244 rfl ?_
      refine al_iload_n dL_law_245 rfl ?_
      refine al_iconst (v := nI 1) dL_law_246 (by decide) ?_
      refine al_iadd dL_law_247 ?_
      refine al_sld (by omega) (by omega) dL_law_248 ?_
      refine al_callM (c_X12_input 0 (xs (i + 1)) (by decide) h2) cl_44 rfl rfl (Nat.le_of_ble_eq_true rfl) ⟨by decide, by decide⟩ dL_law_249 ?_
      refine al_eq (tgt := 507) dL_law_252 (by decide) ?_
      exact next V' W' hR'
    · refine al_tab (k0 := 5) (off := 214) (tgt := 257) hjx dL_law_43 (by decide) (by decide) (by decide) (by decide) ?_
      obtain ⟨r, V', W', h1, h2, hR'⟩ := hs_fetch cn kb V W hc64 hR 
      refine al_aload_n dL_law_257 rfl ?_
      refine al_callC (c_X11_fetch 0  (by decide) h1) cl_45 rfl rfl (Nat.le_of_ble_eq_true rfl) ⟨by decide, by decide⟩ dL_law_258 ?_
      refine al_aload_n dL_law_261 rfl ?_
      refine al_callM (c_X12_fetch 0  (by decide) h2) cl_49 rfl rfl (Nat.le_of_ble_eq_true rfl) ⟨by decide, by decide⟩ dL_law_262 ?_
      refine al_lcmp dL_law_265 ?_
      refine al_if0 (tgt := 507) dL_law_266 (by decide) ?_
      exact next V' W' hR'
    · refine al_tab (k0 := 6) (off := 228) (tgt := 271) hjx dL_law_43 (by decide) (by decide) (by decide) (by decide) ?_
      obtain ⟨r, h1, h2⟩ := hs_register cn kb V W hc64 hR (xs (i + 1)) (xs (i + 2)) (xs (i + 3))
      refine al_aload_n dL_law_271 rfl ?_
      refine al_aload_n dL_law_272 rfl ?_
      refine al_iload_n dL_law_273 rfl ?_
      refine al_iconst (v := nI 1) dL_law_274 (by decide) ?_
      refine al_iadd dL_law_275 ?_
      refine al_sld (by omega) (by omega) dL_law_276 ?_
      refine al_aload_n dL_law_277 rfl ?_
      refine al_iload_n dL_law_278 rfl ?_
      refine al_iconst (v := nI 2) dL_law_279 (by decide) ?_
      refine al_iadd dL_law_280 ?_
      refine al_sld (by omega) (by omega) dL_law_281 ?_
      refine al_aload_n dL_law_282 rfl ?_
      refine al_iload_n dL_law_283 rfl ?_
      refine al_iconst (v := nI 3) dL_law_284 (by decide) ?_
      refine al_iadd dL_law_285 ?_
      refine al_sld (by omega) (by omega) dL_law_286 ?_
      refine al_callC (c_X11_register 0 (xs (i + 1)) (xs (i + 2)) (xs (i + 3)) (by decide) h1) cl_50 rfl rfl (Nat.le_of_ble_eq_true rfl) ⟨by decide, by decide⟩ dL_law_287 ?_
      refine al_aload_n dL_law_290 rfl ?_
      refine al_aload_n dL_law_291 rfl ?_
      refine al_iload_n dL_law_292 rfl ?_
      refine al_iconst (v := nI 1) dL_law_293 (by decide) ?_
      refine al_iadd dL_law_294 ?_
      refine al_sld (by omega) (by omega) dL_law_295 ?_
      refine al_aload_n dL_law_296 rfl ?_
      refine al_iload_n dL_law_297 rfl ?_
      refine al_iconst (v := nI 2) dL_law_298 (by decide) ?_
      refine al_iadd dL_law_299 ?_
      refine al_sld (by omega) (by omega) dL_law_300 ?_
      refine al_aload_n dL_law_301 rfl ?_
      refine al_iload_n dL_law_302 rfl ?_
      refine al_iconst (v := nI 3) dL_law_303 (by decide) ?_
      refine al_iadd dL_law_304 ?_
      refine al_sld (by omega) (by omega) dL_law_305 ?_
      refine al_callM (c_X12_register 0 (xs (i + 1)) (xs (i + 2)) (xs (i + 3)) (by decide) h2) cl_54 rfl rfl (Nat.le_of_ble_eq_true rfl) ⟨by decide, by decide⟩ dL_law_306 ?_
      refine al_lcmp dL_law_309 ?_
      refine al_if0 (tgt := 507) dL_law_310 (by decide) ?_
      exact next V W (hmono _ _ _ _ hR)
    · refine al_tab (k0 := 7) (off := 272) (tgt := 315) hjx dL_law_43 (by decide) (by decide) (by decide) (by decide) ?_
      obtain ⟨r, h1, h2⟩ := hs_memory cn kb V W hc64 hR (xs (i + 1)) (xs (i + 2))
      refine al_aload_n dL_law_315 rfl ?_
      refine al_aload_n dL_law_316 rfl ?_
      refine al_iload_n dL_law_317 rfl ?_
      refine al_iconst (v := nI 1) dL_law_318 (by decide) ?_
      refine al_iadd dL_law_319 ?_
      refine al_sld (by omega) (by omega) dL_law_320 ?_
      refine al_aload_n dL_law_321 rfl ?_
      refine al_iload_n dL_law_322 rfl ?_
      refine al_iconst (v := nI 2) dL_law_323 (by decide) ?_
      refine al_iadd dL_law_324 ?_
      refine al_sld (by omega) (by omega) dL_law_325 ?_
      refine al_callC (c_X11_memory 0 (xs (i + 1)) (xs (i + 2)) (by decide) h1) cl_55 rfl rfl (Nat.le_of_ble_eq_true rfl) ⟨by decide, by decide⟩ dL_law_326 ?_
      refine al_aload_n dL_law_329 rfl ?_
      refine al_aload_n dL_law_330 rfl ?_
      refine al_iload_n dL_law_331 rfl ?_
      refine al_iconst (v := nI 1) dL_law_332 (by decide) ?_
      refine al_iadd dL_law_333 ?_
      refine al_sld (by omega) (by omega) dL_law_334 ?_
      refine al_aload_n dL_law_335 rfl ?_
      refine al_iload_n dL_law_336 rfl ?_
      refine al_iconst (v := nI 2) dL_law_337 (by decide) ?_
      refine al_iadd dL_law_338 ?_
      refine al_sld (by omega) (by omega) dL_law_339 ?_
      refine al_callM (c_X12_memory 0 (xs (i + 1)) (xs (i + 2)) (by decide) h2) cl_59 rfl rfl (Nat.le_of_ble_eq_true rfl) ⟨by decide, by decide⟩ dL_law_340 ?_
      refine al_lcmp dL_law_343 ?_
      refine al_if0 (tgt := 507) dL_law_344 (by decide) ?_
      exact next V W (hmono _ _ _ _ hR)
    · refine al_tab (k0 := 8) (off := 306) (tgt := 349) hjx dL_law_43 (by decide) (by decide) (by decide) (by decide) ?_
      obtain ⟨r, h1, h2⟩ := hs_tag cn kb V W hc64 hR (xs (i + 1))
      refine al_aload_n dL_law_349 rfl ?_
      refine al_aload_n dL_law_350 rfl ?_
      refine al_iload_n dL_law_351 rfl ?_
      refine al_iconst (v := nI 1) dL_law_352 (by decide) ?_
      refine al_iadd dL_law_353 ?_
      refine al_sld (by omega) (by omega) dL_law_354 ?_
      refine al_callC (c_X11_tag 0 (xs (i + 1)) (by decide) h1) cl_60 rfl rfl (Nat.le_of_ble_eq_true rfl) ⟨by decide, by decide⟩ dL_law_355 ?_
      refine al_aload_n dL_law_358 rfl ?_
      refine al_aload_n dL_law_359 rfl ?_
      refine al_iload_n dL_law_360 rfl ?_
      refine al_iconst (v := nI 1) dL_law_361 (by decide) ?_
      refine al_iadd dL_law_362 ?_
      refine al_sld (by omega) (by omega) dL_law_363 ?_
      refine al_callM (c_X12_tag 0 (xs (i + 1)) (by decide) h2) cl_63 rfl rfl (Nat.le_of_ble_eq_true rfl) ⟨by decide, by decide⟩ dL_law_364 ?_
      refine al_eq (tgt := 507) dL_law_367 (by decide) ?_
      exact next V W (hmono _ _ _ _ hR)
    · refine al_tab (k0 := 9) (off := 329) (tgt := 372) hjx dL_law_43 (by decide) (by decide) (by decide) (by decide) ?_
      obtain ⟨r, h1, h2⟩ := hs_thread cn kb V W hc64 hR (xs (i + 1)) (xs (i + 2))
      refine al_aload_n dL_law_372 rfl ?_
      refine al_aload_n dL_law_373 rfl ?_
      refine al_iload_n dL_law_374 rfl ?_
      refine al_iconst (v := nI 1) dL_law_375 (by decide) ?_
      refine al_iadd dL_law_376 ?_
      refine al_sld (by omega) (by omega) dL_law_377 ?_
      refine al_aload_n dL_law_378 rfl ?_
      refine al_iload_n dL_law_379 rfl ?_
      refine al_iconst (v := nI 2) dL_law_380 (by decide) ?_
      refine al_iadd dL_law_381 ?_
      refine al_sld (by omega) (by omega) dL_law_382 ?_
      refine al_callC (c_X11_thread 0 (xs (i + 1)) (xs (i + 2)) (by decide) h1) cl_64 rfl rfl (Nat.le_of_ble_eq_true rfl) ⟨by decide, by decide⟩ dL_law_383 ?_
      refine al_aload_n dL_law_386 rfl ?_
      refine al_aload_n dL_law_387 rfl ?_
      refine al_iload_n dL_law_388 rfl ?_
      refine al_iconst (v := nI 1) dL_law_389 (by decide) ?_
      refine al_iadd dL_law_390 ?_
      refine al_sld (by omega) (by omega) dL_law_391 ?_
      refine al_aload_n dL_law_392 rfl ?_
      refine al_iload_n dL_law_393 rfl ?_
      refine al_iconst (v := nI 2) dL_law_394 (by decide) ?_
      refine al_iadd dL_law_395 ?_
      refine al_sld (by omega) (by omega) dL_law_396 ?_
      refine al_callM (c_X12_thread 0 (xs (i + 1)) (xs (i + 2)) (by decide) h2) cl_68 rfl rfl (Nat.le_of_ble_eq_true rfl) ⟨by decide, by decide⟩ dL_law_397 ?_
      refine al_eq (tgt := 507) dL_law_400 (by decide) ?_
      exact next V W (hmono _ _ _ _ hR)
    · refine al_tab (k0 := 10) (off := 362) (tgt := 405) hjx dL_law_43 (by decide) (by decide) (by decide) (by decide) ?_
      obtain ⟨r, h1, h2⟩ := hs_compartment cn kb V W hc64 hR (xs (i + 1)) (xs (i + 2))
      refine al_aload_n dL_law_405 rfl ?_
      refine al_aload_n dL_law_406 rfl ?_
      refine al_iload_n dL_law_407 rfl ?_
      refine al_iconst (v := nI 1) dL_law_408 (by decide) ?_
      refine al_iadd dL_law_409 ?_
      refine al_sld (by omega) (by omega) dL_law_410 ?_
      refine al_aload_n dL_law_411 rfl ?_
      refine al_iload_n dL_law_412 rfl ?_
      refine al_iconst (v := nI 2) dL_law_413 (by decide) ?_
      refine al_iadd dL_law_414 ?_
      refine al_sld (by omega) (by omega) dL_law_415 ?_
      refine al_callC (c_X11_compartment 0 (xs (i + 1)) (xs (i + 2)) (by decide) h1) cl_69 rfl rfl (Nat.le_of_ble_eq_true rfl) ⟨by decide, by decide⟩ dL_law_416 ?_
      refine al_aload_n dL_law_419 rfl ?_
      refine al_aload_n dL_law_420 rfl ?_
      refine al_iload_n dL_law_421 rfl ?_
      refine al_iconst (v := nI 1) dL_law_422 (by decide) ?_
      refine al_iadd dL_law_423 ?_
      refine al_sld (by omega) (by omega) dL_law_424 ?_
      refine al_aload_n dL_law_425 rfl ?_
      refine al_iload_n dL_law_426 rfl ?_
      refine al_iconst (v := nI 2) dL_law_427 (by decide) ?_
      refine al_iadd dL_law_428 ?_
      refine al_sld (by omega) (by omega) dL_law_429 ?_
      refine al_callM (c_X12_compartment 0 (xs (i + 1)) (xs (i + 2)) (by decide) h2) cl_72 rfl rfl (Nat.le_of_ble_eq_true rfl) ⟨by decide, by decide⟩ dL_law_430 ?_
      refine al_eq (tgt := 507) dL_law_433 (by decide) ?_
      exact next V W (hmono _ _ _ _ hR)
    · refine al_tab (k0 := 11) (off := 395) (tgt := 438) hjx dL_law_43 (by decide) (by decide) (by decide) (by decide) ?_
      obtain ⟨r, h1, h2⟩ := hs_heap cn kb V W hc64 hR (xs (i + 1))
      refine al_aload_n dL_law_438 rfl ?_
      refine al_aload_n dL_law_439 rfl ?_
      refine al_iload_n dL_law_440 rfl ?_
      refine al_iconst (v := nI 1) dL_law_441 (by decide) ?_
      refine al_iadd dL_law_442 ?_
      refine al_sld (by omega) (by omega) dL_law_443 ?_
      refine al_callC (c_X11_heap 0 (xs (i + 1)) (by decide) h1) cl_73 rfl rfl (Nat.le_of_ble_eq_true rfl) ⟨by decide, by decide⟩ dL_law_444 ?_
      refine al_aload_n dL_law_447 rfl ?_
      refine al_aload_n dL_law_448 rfl ?_
      refine al_iload_n dL_law_449 rfl ?_
      refine al_iconst (v := nI 1) dL_law_450 (by decide) ?_
      refine al_iadd dL_law_451 ?_
      refine al_sld (by omega) (by omega) dL_law_452 ?_
      refine al_callM (c_X12_heap 0 (xs (i + 1)) (by decide) h2) cl_76 rfl rfl (Nat.le_of_ble_eq_true rfl) ⟨by decide, by decide⟩ dL_law_453 ?_
      refine al_eq (tgt := 507) dL_law_456 (by decide) ?_
      exact next V W (hmono _ _ _ _ hR)
    · refine al_tab (k0 := 12) (off := 418) (tgt := 461) hjx dL_law_43 (by decide) (by decide) (by decide) (by decide) ?_
      obtain ⟨r, h1, h2⟩ := hs_count cn kb V W hc64 hR (xs (i + 1))
      refine al_aload_n dL_law_461 rfl ?_
      refine al_aload_n dL_law_462 rfl ?_
      refine al_iload_n dL_law_463 rfl ?_
      refine al_iconst (v := nI 1) dL_law_464 (by decide) ?_
      refine al_iadd dL_law_465 ?_
      refine al_sld (by omega) (by omega) dL_law_466 ?_
      refine al_callC (c_X11_count 0 (xs (i + 1)) (by decide) h1) cl_77 rfl rfl (Nat.le_of_ble_eq_true rfl) ⟨by decide, by decide⟩ dL_law_467 ?_
      refine al_aload_n dL_law_470 rfl ?_
      refine al_aload_n dL_law_471 rfl ?_
      refine al_iload_n dL_law_472 rfl ?_
      refine al_iconst (v := nI 1) dL_law_473 (by decide) ?_
      refine al_iadd dL_law_474 ?_
      refine al_sld (by omega) (by omega) dL_law_475 ?_
      refine al_callM (c_X12_count 0 (xs (i + 1)) (by decide) h2) cl_80 rfl rfl (Nat.le_of_ble_eq_true rfl) ⟨by decide, by decide⟩ dL_law_476 ?_
      refine al_eq (tgt := 507) dL_law_479 (by decide) ?_
      exact next V W (hmono _ _ _ _ hR)
    · refine al_tab (k0 := 13) (off := 441) (tgt := 484) hjx dL_law_43 (by decide) (by decide) (by decide) (by decide) ?_
      obtain ⟨r, W', h1, h2, hR'⟩ := hs_broken cn kb V W hc64 hR (xs (i + 1))
      refine al_aload_n dL_law_484 rfl ?_
      refine al_aload_n dL_law_485 rfl ?_
      refine al_iload_n dL_law_486 rfl ?_
      refine al_iconst (v := nI 1) dL_law_487 (by decide) ?_
      refine al_iadd dL_law_488 ?_
      refine al_sld (by omega) (by omega) dL_law_489 ?_
      refine al_callC (c_X11_broken 0 (xs (i + 1)) (by decide) h1) cl_81 rfl rfl (Nat.le_of_ble_eq_true rfl) ⟨by decide, by decide⟩ dL_law_490 ?_
      refine al_aload_n dL_law_493 rfl ?_
      refine al_aload_n dL_law_494 rfl ?_
      refine al_iload_n dL_law_495 rfl ?_
      refine al_iconst (v := nI 1) dL_law_496 (by decide) ?_
      refine al_iadd dL_law_497 ?_
      refine al_sld (by omega) (by omega) dL_law_498 ?_
      refine al_callM (c_X12_broken 0 (xs (i + 1)) (by decide) h2) cl_84 rfl rfl (Nat.le_of_ble_eq_true rfl) ⟨by decide, by decide⟩ dL_law_499 ?_
      refine al_eq (tgt := 507) dL_law_502 (by decide) ?_
      exact next V W' hR'
    · refine al_tabD (k0 := 14) (tgt := 507) hjx dL_law_43 (by decide) (by decide) ?_
      exact next V W (hmono _ _ _ _ hR)
    · refine al_tabD (k0 := 15) (tgt := 507) hjx dL_law_43 (by decide) (by decide) ?_
      exact next V W (hmono _ _ _ _ hR)
