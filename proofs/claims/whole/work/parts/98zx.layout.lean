/-! the layout -/
def cwN (W : HV) (c : Nat) : Nat := (4 * xN W 8800 c + 15) / 16
def cg (W : HV) : Nat → Nat
  | 0 => 0
  | c + 1 => cg W c + cwN W c + xN W 9000 c + xN W 8900 c
def sg (W : HV) (C : Nat) : Nat → Nat
  | 0 => cg W C
  | t + 1 => sg W C t + xN W 9900 t
theorem xN_eq {W : HV} {l j k : Nat} (h : W l 0 j = nI k) (hk : k < 2147483648) : xN W l j = k := by
  unfold xN; rw [h]; exact cl_nI hk
theorem IM_c {n C T tt c : Nat} {B : Nat → Nat} {V W : HV} (h : IM n C T tt B V W) (hc : c < C) : V 102 c 0 = nI (xN W 8800 c) ∧ W 8800 0 c = nI (xN W 8800 c) ∧ V 105 c 0 = nI (xN W 9000 c) ∧ W 9000 0 c = nI (xN W 9000 c) ∧ V 103 c 0 = nI (xN W 8900 c) ∧ W 8900 0 c = nI (xN W 8900 c) ∧ 1 ≤ xN W 8800 c ∧ xN W 8800 c ≤ 200 ∧ xN W 9000 c ≤ 16 ∧ xN W 8900 c ≤ 32 := by
  obtain ⟨w, gl, e, im, it, ct, c1, c2, c3, c4, c5, c6, c7, d1, d2, d3, d4, d5, d6, d7, d8, -⟩ := h.2.2.2.2.2.2.2.2.1 c hc
  rw [xN_eq d2 (by omega), xN_eq d8 (by omega), xN_eq d4 (by omega)]
  exact ⟨d1, d2, d7, d8, d3, d4, c1, c2, c5, c3⟩
theorem IM_t {n C T tt t : Nat} {B : Nat → Nat} {V W : HV} (h : IM n C T tt B V W) (ht : t < T) : W 9900 0 t = nI (xN W 9900 t) ∧ B (tt + 5 * t + 3) = xN W 9900 t ∧ 1 ≤ xN W 9900 t ∧ xN W 9900 t ≤ 32 := by
  obtain ⟨t1, t2, t3, t4, t5, t6, t7, t8, t9, t10⟩ := h.2.2.2.2.2.2.2.2.2.2.1 t ht
  rw [xN_eq t5 (by omega)]
  exact ⟨t5, rfl, t8, t9⟩
theorem cg_le {n C T tt : Nat} {B : Nat → Nat} {V W : HV} (h : IM n C T tt B V W) : ∀ c, c ≤ C → cg W c ≤ 98 * c
  | 0, _ => Nat.le_refl _
  | c + 1, hc => by
    have ih := cg_le h c (by omega)
    obtain ⟨-, -, -, -, -, -, a1, a2, a3, a4⟩ := IM_c h (show c < C by omega)
    have : cg W (c + 1) = cg W c + cwN W c + xN W 9000 c + xN W 8900 c := rfl
    have e : cwN W c ≤ 50 := by unfold cwN; omega
    omega
theorem sg_le {n C T tt : Nat} {B : Nat → Nat} {V W : HV} (h : IM n C T tt B V W) : ∀ t, t ≤ T → sg W C t ≤ 784 + 32 * t
  | 0, _ => by
    have := cg_le h C (Nat.le_refl _)
    have e : sg W C 0 = cg W C := rfl
    have := h.2.1
    omega
  | t + 1, ht => by
    have ih := sg_le h t (by omega)
    have := (IM_t h (show t < T by omega)).2.2.2
    have e : sg W C (t + 1) = sg W C t + xN W 9900 t := rfl
    omega
theorem sg_ge {W : HV} {C : Nat} : ∀ t, cg W C ≤ sg W C t
  | 0 => Nat.le_refl _
  | t + 1 => by
    have ih := sg_ge (W := W) (C := C) t
    have e : sg W C (t + 1) = sg W C t + xN W 9900 t := rfl
    omega
theorem cg_mono {W : HV} {a : Nat} : ∀ b, a ≤ b → cg W a ≤ cg W b
  | 0, h => by rw [show a = 0 by omega]; exact Nat.le_refl _
  | b + 1, h => by
    by_cases e : a = b + 1
    · rw [e]; exact Nat.le_refl _
    · have ih := cg_mono (W := W) (a := a) b (by omega)
      have : cg W (b + 1) = cg W b + cwN W b + xN W 9000 b + xN W 8900 b := rfl
      omega
theorem sg_mono {W : HV} {C a : Nat} : ∀ b, a ≤ b → sg W C a ≤ sg W C b
  | 0, h => by rw [show a = 0 by omega]; exact Nat.le_refl _
  | b + 1, h => by
    by_cases e : a = b + 1
    · rw [e]; exact Nat.le_refl _
    · have ih := sg_mono (W := W) (C := C) (a := a) b (by omega)
      have : sg W C (b + 1) = sg W C b + xN W 9900 b := rfl
      omega
def LcM (W0 W : HV) (c : Nat) : Prop := W 4000 0 c = nI (16 * cg W0 c) ∧ W 4100 0 c = nI (16 * (cg W0 c + cwN W0 c)) ∧ W 4200 0 c = nI (16 * (cg W0 c + cwN W0 c + xN W0 9000 c)) ∧ W 4300 0 c = nI (16 * cg W0 (c + 1))
def LcC (W0 V : HV) (c : Nat) : Prop := V 108 c 0 = nI (16 * cg W0 c) ∧ V 109 c 0 = nI (16 * (cg W0 c + cwN W0 c)) ∧ V 110 c 0 = nI (16 * (cg W0 c + cwN W0 c + xN W0 9000 c)) ∧ V 111 c 0 = nI (16 * cg W0 (c + 1))
theorem lm_L {n C T tt : Nat} {B : Nat → Nat} {V W0 : HV} (h : IM n C T tt B V W0) : ∀ (r k f : Nat) (W : HV), k + r = C → r < f → agr [4000, 4100, 4200, 4300] W0 W → ∃ W', (∀ K : Int32 → HV → Option HV, f_X12_layout_L4 0 K f (nI (16 * cg W0 k)) (nI k) W = K (nI (16 * cg W0 C)) W') ∧ agr [4000, 4100, 4200, 4300] W W' ∧ (∀ c, c < k → LcM W0 W c → LcM W0 W' c) ∧ (∀ c, k ≤ c → c < C → LcM W0 W' c)
  | _, _, 0, _, _, hf, _ => absurd hf (by omega)
  | 0, k, f + 1, W, hk, _, hW => by
    have hC := h.2.1
    refine ⟨W, fun K => ?_, (agr_rfl W).sub (by decide), fun _ _ z => z, fun c h1 h2 => by omega⟩
    unfold f_X12_layout_L4
    rw [hW 1018 0 0 (by decide), h.2.2.2.2.2.1, if_pos (nI_le (by omega) (by omega)), show k = C by omega]
  | r + 1, k, f + 1, W, hk, hf, hW => by
    have hC := h.2.1
    have ik : inb (nI k) 8 := inb_nI (by omega) (by decide)
    obtain ⟨-, a1, -, a2, -, a3, a4, a5, a6, a7⟩ := IM_c h (show k < C by omega)
    have hcg := cg_le h k (by omega)
    have ecg : cg W0 (k + 1) = cg W0 k + cwN W0 k + xN W0 9000 k + xN W0 8900 k := rfl
    have hcw : cwN W0 k ≤ 50 := by unfold cwN; omega
    generalize hW4 : sv (sv (sv (sv W 4000 0 k (nI (16 * cg W0 k))) 4100 0 k (nI (16 * (cg W0 k + cwN W0 k)))) 4200 0 k (nI (16 * (cg W0 k + cwN W0 k + xN W0 9000 k)))) 4300 0 k (nI (16 * cg W0 (k + 1))) = W4
    have a4' : agr [4000, 4100, 4200, 4300] W W4 := by rw [← hW4]; exact ((((agr_sv _ _ _ _ _).app (agr_sv _ _ _ _ _)).app (agr_sv _ _ _ _ _)).app (agr_sv _ _ _ _ _)).sub (by decide)
    have hk4 : LcM W0 W4 k := by
      rw [← hW4]
      refine ⟨?_, ?_, ?_, ?_⟩
      · rw [sv_col (by decide), sv_col (by decide), sv_col (by decide), sv_at]
      · rw [sv_col (by decide), sv_col (by decide), sv_at]
      · rw [sv_col (by decide), sv_at]
      · rw [sv_at]
    have ho : ∀ c, c ≠ k → LcM W0 W c → LcM W0 W4 c := by
      intro c hc ⟨z1, z2, z3, z4⟩
      have nk : ∀ l, W4 l 0 c = W l 0 c := fun l => by rw [← hW4, sv_ne (fun q => hc q.2.2), sv_ne (fun q => hc q.2.2), sv_ne (fun q => hc q.2.2), sv_ne (fun q => hc q.2.2)]
      unfold LcM
      rw [nk, nk, nk, nk]
      exact ⟨z1, z2, z3, z4⟩
    obtain ⟨W', x1, x2, x3, x4⟩ := lm_L h r (k + 1) f W4 (by omega) (by omega) (hW.trans a4')
    refine ⟨W', fun K => ?_, a4'.trans x2, fun c hc z => x3 c (by omega) (ho c (by omega) z), fun c h1 h2 => ?_⟩
    · have key := x1 K
      unfold f_X12_layout_L4
      rw [hW 1018 0 0 (by decide), h.2.2.2.2.2.1, if_neg (fun q => by have := (nI_leI (by omega) (by omega)).mp q; omega), chk_t ik, lt_def, chk_t ik, lt_def, chk_t ik, lt_def, chk_t ik, lt_def, chk_t ik, lt_def, chk_t ik, lt_def, chk_t ik, lt_def, lt_def, cl_nI (by omega)]
      have w8 : ∀ (X : HV), X 8800 0 k = W 8800 0 k → X 8800 0 k = nI (xN W0 8800 k) := fun X hX => by rw [hX, hW 8800 0 k (by decide)]; exact a1
      have e1 : nI (16 * cg W0 k) + (4 * ((sv W 4000 0 k (nI (16 * cg W0 k))) 8800 0 k) + 15) / 16 * 16 = nI (16 * (cg W0 k + cwN W0 k)) := by
        rw [sv_col (by decide), hW 8800 0 k (by decide), a1, show (4 : Int32) = nI 4 from rfl, pk_mul, show (15 : Int32) = nI 15 from rfl, nI_add, dv16 (by omega), show (16 : Int32) = nI 16 from rfl, pk_mul, nI_add]
        congr 1
        unfold cwN
        omega
      have e2 : nI (16 * (cg W0 k + cwN W0 k)) + 16 * ((sv (sv W 4000 0 k (nI (16 * cg W0 k))) 4100 0 k (nI (16 * (cg W0 k + cwN W0 k)))) 9000 0 k) = nI (16 * (cg W0 k + cwN W0 k + xN W0 9000 k)) := by
        rw [sv_col (by decide), sv_col (by decide), hW 9000 0 k (by decide), a2, show (16 : Int32) = nI 16 from rfl, pk_mul, nI_add]
        congr 1
        omega
      have e3 : nI (16 * (cg W0 k + cwN W0 k + xN W0 9000 k)) + 16 * ((sv (sv (sv W 4000 0 k (nI (16 * cg W0 k))) 4100 0 k (nI (16 * (cg W0 k + cwN W0 k)))) 4200 0 k (nI (16 * (cg W0 k + cwN W0 k + xN W0 9000 k)))) 8900 0 k) = nI (16 * cg W0 (k + 1)) := by
        rw [sv_col (by decide), sv_col (by decide), sv_col (by decide), hW 8900 0 k (by decide), a3, show (16 : Int32) = nI 16 from rfl, pk_mul, nI_add, ecg]
        congr 1
        omega
      rw [e1, e2, e3, hW4, nI_1]
      exact key
    · by_cases e : c = k
      · rw [e]; exact x3 k (by omega) hk4
      · exact x4 c (by omega) h2
def LtM (W0 W : HV) (C t : Nat) : Prop := W 5600 0 t = nI (16 * sg W0 C t) ∧ W 5700 0 t = nI (16 * sg W0 C (t + 1))
def LtV (W0 V : HV) (C t : Nat) : Prop := V 707 t 0 = nI (16 * sg W0 C t) ∧ V 708 t 0 = nI (16 * sg W0 C (t + 1))
theorem lt_L {n C T tt : Nat} {B : Nat → Nat} {V W0 : HV} (h : IM n C T tt B V W0) : ∀ (r k f : Nat) (W : HV), k + r = T → r < f → agr [4000, 4100, 4200, 4300, 5600, 5700] W0 W → ∃ W', (∀ K : Int32 → HV → Option HV, f_X12_layout_L92 0 K f (nI (16 * sg W0 C k)) (nI k) W = K (nI (16 * sg W0 C T)) W') ∧ agr [5600, 5700] W W' ∧ (∀ c, c < k → LtM W0 W C c → LtM W0 W' C c) ∧ (∀ c, k ≤ c → c < T → LtM W0 W' C c)
  | _, _, 0, _, _, hf, _ => absurd hf (by omega)
  | 0, k, f + 1, W, hk, _, hW => by
    have hT := h.2.2.2.1
    refine ⟨W, fun K => ?_, (agr_rfl W).sub (by decide), fun _ _ z => z, fun c h1 h2 => by omega⟩
    unfold f_X12_layout_L92
    rw [hW 1019 0 0 (by decide), h.2.2.2.2.2.2.2.1, if_pos (nI_le (by omega) (by omega)), show k = T by omega]
  | r + 1, k, f + 1, W, hk, hf, hW => by
    have hT := h.2.2.2.1
    have ik : inb (nI k) 6 := inb_nI (by omega) (by decide)
    obtain ⟨a1, -, a3, a4⟩ := IM_t h (show k < T by omega)
    have hsg := sg_le h k (by omega)
    have esg : sg W0 C (k + 1) = sg W0 C k + xN W0 9900 k := rfl
    generalize hW2 : sv (sv W 5600 0 k (nI (16 * sg W0 C k))) 5700 0 k (nI (16 * sg W0 C (k + 1))) = W2
    have a2 : agr [5600, 5700] W W2 := by rw [← hW2]; exact (agr_sv _ _ _ _ _).app (agr_sv _ _ _ _ _)
    have hk2 : LtM W0 W2 C k := by
      rw [← hW2]
      exact ⟨by rw [sv_col (by decide), sv_at], sv_at _ _ _ _ _⟩
    have ho : ∀ c, c ≠ k → LtM W0 W C c → LtM W0 W2 C c := by
      intro c hc ⟨z1, z2⟩
      have nk : ∀ l, W2 l 0 c = W l 0 c := fun l => by rw [← hW2, sv_ne (fun q => hc q.2.2), sv_ne (fun q => hc q.2.2)]
      unfold LtM
      rw [nk, nk]
      exact ⟨z1, z2⟩
    obtain ⟨W', x1, x2, x3, x4⟩ := lt_L h r (k + 1) f W2 (by omega) (by omega) ((hW.app a2).sub (by decide))
    refine ⟨W', fun K => ?_, a2.trans x2, fun c hc z => x3 c (by omega) (ho c (by omega) z), fun c h1 h2 => ?_⟩
    · have key := x1 K
      unfold f_X12_layout_L92
      have e1 : nI (16 * sg W0 C k) + 16 * ((sv W 5600 0 k (nI (16 * sg W0 C k))) 9900 0 k) = nI (16 * sg W0 C (k + 1)) := by
        rw [sv_col (by decide), hW 9900 0 k (by decide), a1, show (16 : Int32) = nI 16 from rfl, pk_mul, nI_add, esg]
        congr 1
        omega
      rw [hW 1019 0 0 (by decide), h.2.2.2.2.2.2.2.1, if_neg (fun q => by have := (nI_leI (by omega) (by omega)).mp q; omega), chk_t ik, lt_def, chk_t ik, lt_def, chk_t ik, lt_def, lt_def, cl_nI (by omega), e1, hW2, nI_1]
      exact key
    · by_cases e : c = k
      · rw [e]; exact x3 k (by omega) hk2
      · exact x4 c (by omega) h2
def loM : List Nat := [1054, 4000, 4100, 4200, 4300, 5600, 5700]
theorem lay_M {n C T tt : Nat} {B : Nat → Nat} {V W : HV} (h : IM n C T tt B V W) : ∃ W', f_X12_layout 0 W = some W' ∧ agr loM W W' ∧ W' 1054 0 0 = nI (16 * sg W C T) ∧ (∀ c, c < C → LcM W W' c) ∧ (∀ t, t < T → LtM W W' C t) := by
  have hC := h.2.1
  have hT := h.2.2.2.1
  obtain ⟨W1, a1, a2, -, a4⟩ := lm_L h C 0 FU W (by omega) (FU_gt (by omega)) ((agr_rfl W).sub (by decide))
  obtain ⟨W2, b1, b2, -, b4⟩ := lt_L h T 0 FU W1 (by omega) (FU_gt (by omega)) (a2.sub (by decide))
  refine ⟨sv W2 1054 0 0 (nI (16 * sg W C T)), ?_, ((a2.app b2).app (agr_sv _ _ _ _ _)).sub (by decide), sv_at _ _ _ _ _, fun c hc => ?_, fun t ht => ?_⟩
  · unfold f_X12_layout
    rw [jn_def]
    refine (a1 _).trans ?_
    rw [jn_def]
    refine (b1 _).trans ?_
    rw [lt_def]
  · have := a4 c (Nat.zero_le _) hc
    unfold LcM at this ⊢
    rw [sv_col (by decide), sv_col (by decide), sv_col (by decide), sv_col (by decide), b2 4000 0 c (by decide), b2 4100 0 c (by decide), b2 4200 0 c (by decide), b2 4300 0 c (by decide)]
    exact this
  · have := b4 t (Nat.zero_le _) ht
    unfold LtM at this ⊢
    rw [sv_col (by decide), sv_col (by decide)]
    exact this
/-! the class's -/
theorem la_L {kb n C T tt : Nat} {B : Nat → Nat} {V0 W0 : HV} (h : IM n C T tt B V0 W0) : ∀ (r k f : Nat) (V : HV), k + r = C → r < f → agr [108, 109, 110, 111] V0 V → ∃ V', (∀ K : Int32 → HV → Option HV, f_X5_arrange_L4 0 kb K f (nI (16 * cg W0 k)) (nI k) V = K (nI (16 * cg W0 C)) V') ∧ agr [108, 109, 110, 111] V V' ∧ (∀ c, c < k → LcC W0 V c → LcC W0 V' c) ∧ (∀ c, k ≤ c → c < C → LcC W0 V' c)
  | _, _, 0, _, _, hf, _ => absurd hf (by omega)
  | 0, k, f + 1, V, hk, _, hV => by
    have hC := h.2.1
    refine ⟨V, fun K => ?_, (agr_rfl V).sub (by decide), fun _ _ z => z, fun c h1 h2 => by omega⟩
    unfold f_X5_arrange_L4
    rw [hV 406 0 0 (by decide), h.2.2.2.2.1, if_pos (nI_le (by omega) (by omega)), show k = C by omega]
  | r + 1, k, f + 1, V, hk, hf, hV => by
    have hC := h.2.1
    have ik : inb (nI k) 8 := inb_nI (by omega) (by decide)
    obtain ⟨a1, -, a2, -, a3, -, a4, a5, a6, a7⟩ := IM_c h (show k < C by omega)
    have hcg := cg_le h k (by omega)
    have ecg : cg W0 (k + 1) = cg W0 k + cwN W0 k + xN W0 9000 k + xN W0 8900 k := rfl
    have hcw : cwN W0 k ≤ 50 := by unfold cwN; omega
    generalize hV4 : sv (sv (sv (sv V 108 k 0 (nI (16 * cg W0 k))) 109 k 0 (nI (16 * (cg W0 k + cwN W0 k)))) 110 k 0 (nI (16 * (cg W0 k + cwN W0 k + xN W0 9000 k)))) 111 k 0 (nI (16 * cg W0 (k + 1))) = V4
    have a4' : agr [108, 109, 110, 111] V V4 := by rw [← hV4]; exact ((((agr_sv _ _ _ _ _).app (agr_sv _ _ _ _ _)).app (agr_sv _ _ _ _ _)).app (agr_sv _ _ _ _ _)).sub (by decide)
    have hk4 : LcC W0 V4 k := by
      rw [← hV4]
      refine ⟨?_, ?_, ?_, ?_⟩
      · rw [sv_col (by decide), sv_col (by decide), sv_col (by decide), sv_at]
      · rw [sv_col (by decide), sv_col (by decide), sv_at]
      · rw [sv_col (by decide), sv_at]
      · rw [sv_at]
    have ho : ∀ c, c ≠ k → LcC W0 V c → LcC W0 V4 c := by
      intro c hc ⟨z1, z2, z3, z4⟩
      have nk : ∀ l, V4 l c 0 = V l c 0 := fun l => by rw [← hV4, sv_ne (fun q => hc q.2.1), sv_ne (fun q => hc q.2.1), sv_ne (fun q => hc q.2.1), sv_ne (fun q => hc q.2.1)]
      unfold LcC
      rw [nk, nk, nk, nk]
      exact ⟨z1, z2, z3, z4⟩
    have harr : f_X1_arrange kb k (nI (16 * cg W0 k)) V = (nI (16 * cg W0 (k + 1)), V4) := by
      unfold f_X1_arrange
      have e1 : nI (16 * cg W0 k) + (((sv V 108 k 0 (nI (16 * cg W0 k))) 102 k 0 * 4 + 16 - 1) / 16) * 16 = nI (16 * (cg W0 k + cwN W0 k)) := by
        rw [sv_col (by decide), hV 102 k 0 (by decide), a1, show (4 : Int32) = nI 4 from rfl, pk_mul, show (16 : Int32) = nI 16 from rfl, nI_add, show nI (xN W0 8800 k * 4 + 16) - 1 = nI (xN W0 8800 k * 4 + 15) from nI_pred _, show nI 16 = (16 : Int32) from rfl, dv16 (by omega), show (16 : Int32) = nI 16 from rfl, pk_mul, nI_add]
        congr 1
        unfold cwN
        omega
      have e2 : (sv (sv V 108 k 0 (nI (16 * cg W0 k))) 109 k 0 (nI (16 * (cg W0 k + cwN W0 k)))) 109 k 0 + ((sv (sv V 108 k 0 (nI (16 * cg W0 k))) 109 k 0 (nI (16 * (cg W0 k + cwN W0 k)))) 105 k 0) * 16 = nI (16 * (cg W0 k + cwN W0 k + xN W0 9000 k)) := by
        rw [sv_at, sv_col (by decide), sv_col (by decide), hV 105 k 0 (by decide), a2, show (16 : Int32) = nI 16 from rfl, pk_mul, nI_add]
        congr 1
        omega
      have e3 : (sv (sv (sv V 108 k 0 (nI (16 * cg W0 k))) 109 k 0 (nI (16 * (cg W0 k + cwN W0 k)))) 110 k 0 (nI (16 * (cg W0 k + cwN W0 k + xN W0 9000 k)))) 110 k 0 + ((sv (sv (sv V 108 k 0 (nI (16 * cg W0 k))) 109 k 0 (nI (16 * (cg W0 k + cwN W0 k)))) 110 k 0 (nI (16 * (cg W0 k + cwN W0 k + xN W0 9000 k)))) 103 k 0) * 16 = nI (16 * cg W0 (k + 1)) := by
        rw [sv_at, sv_col (by decide), sv_col (by decide), sv_col (by decide), hV 103 k 0 (by decide), a3, show (16 : Int32) = nI 16 from rfl, pk_mul, nI_add, ecg]
        congr 1
        omega
      rw [lt_def, lt_def, e1, lt_def, e2, lt_def, e3, hV4, hk4.2.2.2]
    obtain ⟨V', x1, x2, x3, x4⟩ := la_L (kb := kb) h r (k + 1) f V4 (by omega) (by omega) (hV.trans a4')
    refine ⟨V', fun K => ?_, a4'.trans x2, fun c hc z => x3 c (by omega) (ho c (by omega) z), fun c h1 h2 => ?_⟩
    · unfold f_X5_arrange_L4
      rw [hV 406 0 0 (by decide), h.2.2.2.2.1, if_neg (fun q => by have := (nI_leI (by omega) (by omega)).mp q; omega), if_neg (show ¬ (8 : Int32) ≤ nI k from fun q => by have := (nI_leI (a := 8) (by decide) (by omega)).mp q; omega), chk_t ik, cl_nI (by omega), harr, lt_def, lt_def, lt_def, nI_1]
      exact x1 K
    · by_cases e : c = k
      · rw [e]; exact x3 k (by omega) hk4
      · exact x4 c (by omega) h2
theorem lb_L {kb n C T tt : Nat} {B : Nat → Nat} {V0 W0 : HV} (hP : PR n B V0 W0) (h : IM n C T tt B V0 W0) : ∀ (r k f : Nat) (V : HV), k + r = T → r < f → agr [108, 109, 110, 111, 707, 708] V0 V → ∃ V', (∀ K : Int32 → HV → Option HV, f_X5_arrange_L37 0 kb K f (nI (16 * sg W0 C k)) (nI k) V = K (nI (16 * sg W0 C T)) V') ∧ agr [707, 708] V V' ∧ (∀ c, c < k → LtV W0 V C c → LtV W0 V' C c) ∧ (∀ c, k ≤ c → c < T → LtV W0 V' C c)
  | _, _, 0, _, _, hf, _ => absurd hf (by omega)
  | 0, k, f + 1, V, hk, _, hV => by
    have hT := h.2.2.2.1
    refine ⟨V, fun K => ?_, (agr_rfl V).sub (by decide), fun _ _ z => z, fun c h1 h2 => by omega⟩
    unfold f_X5_arrange_L37
    rw [hV 407 0 0 (by decide), h.2.2.2.2.2.2.1, if_pos (nI_le (by omega) (by omega)), show k = T by omega]
  | r + 1, k, f + 1, V, hk, hf, hV => by
    have hT := h.2.2.2.1
    have hn := hP.1
    have htt := h.2.2.2.2.2.2.2.2.2.2.2
    have ik : inb (nI k) 6 := inb_nI (by omega) (by decide)
    obtain ⟨-, a1, a3, a4⟩ := IM_t h (show k < T by omega)
    have hsg := sg_le h k (by omega)
    have esg : sg W0 C (k + 1) = sg W0 C k + xN W0 9900 k := rfl
    generalize hV2 : sv (sv V 707 k 0 (nI (16 * sg W0 C k))) 708 k 0 (nI (16 * sg W0 C (k + 1))) = V2
    have a2 : agr [707, 708] V V2 := by rw [← hV2]; exact (agr_sv _ _ _ _ _).app (agr_sv _ _ _ _ _)
    have hk2 : LtV W0 V2 C k := by
      rw [← hV2]
      exact ⟨by rw [sv_col (by decide), sv_at], sv_at _ _ _ _ _⟩
    have ho : ∀ c, c ≠ k → LtV W0 V C c → LtV W0 V2 C c := by
      intro c hc ⟨z1, z2⟩
      have nk : ∀ l, V2 l c 0 = V l c 0 := fun l => by rw [← hV2, sv_ne (fun q => hc q.2.1), sv_ne (fun q => hc q.2.1)]
      unfold LtV
      rw [nk, nk]
      exact ⟨z1, z2⟩
    obtain ⟨V', x1, x2, x3, x4⟩ := lb_L (kb := kb) hP h r (k + 1) f V2 (by omega) (by omega) ((hV.app a2).sub (by decide))
    refine ⟨V', fun K => ?_, a2.trans x2, fun c hc z => x3 c (by omega) (ho c (by omega) z), fun c h1 h2 => ?_⟩
    · have a70 : agr [108, 109, 110, 111, 707, 708] V0 (sv V 707 k 0 (nI (16 * sg W0 C k))) := (hV.app (agr_sv _ _ _ _ _)).sub (by decide)
      have hP1 : PR n B (sv V 707 k 0 (nI (16 * sg W0 C k))) W0 := PR_fr hP a70 (agr_rfl W0) (by decide) (by decide)
      have e5 : nI tt + nI k * 5 + 3 = nI (tt + 5 * k + 3) := by
        rw [show (5 : Int32) = nI 5 from rfl, pk_mul, nI_add, show (3 : Int32) = nI 3 from rfl, nI_add]
        congr 1
        omega
      have e1 : nI (16 * sg W0 C k) + nI (B (tt + 5 * k + 3)) * 16 = nI (16 * sg W0 C (k + 1)) := by
        rw [a1, show (16 : Int32) = nI 16 from rfl, pk_mul, nI_add, esg]
        congr 1
        omega
      unfold f_X5_arrange_L37
      rw [hV 407 0 0 (by decide), h.2.2.2.2.2.2.1, if_neg (fun q => by have := (nI_leI (by omega) (by omega)).mp q; omega), if_neg (show ¬ (6 : Int32) ≤ nI k from fun q => by have := (nI_leI (a := 6) (by decide) (by omega)).mp q; omega), chk_t ik, lt_def, cl_nI (by omega), a70 408 0 0 (by decide), h.2.2.2.2.2.2.2.2.2.1, e5, byte_C hP1 (by omega), bnd_some, e1, lt_def, chk_t ik, lt_def, hV2, lt_def, nI_1]
      exact x1 K
    · by_cases e : c = k
      · rw [e]; exact x3 k (by omega) hk2
      · exact x4 c (by omega) h2
def loC : List Nat := [108, 109, 110, 111, 409, 707, 708]
theorem lay_C {kb n C T tt : Nat} {B : Nat → Nat} {V W : HV} (h1 : 1 ≤ kb) (hkb : kb ≤ 32) (hP : PR n B V W) (h : IM n C T tt B V W) : ∃ V', f_X5_arrange kb 0 0 V = some (if 16 * sg W C T + 16 ≤ 1024 * kb then V' else f_X5_fail kb 0 5 (nI n) V') ∧ agr loC V V' ∧ V' 409 0 0 = nI (16 * sg W C T) ∧ (∀ c, c < C → LcC W V' c) ∧ (∀ t, t < T → LtV W V' C t) := by
  have hC := h.2.1
  have hT := h.2.2.2.1
  have hsg := sg_le h T (Nat.le_refl _)
  obtain ⟨V1, a1, a2, -, a4⟩ := la_L (kb := kb) h C 0 FU V (by omega) (FU_gt (by omega)) ((agr_rfl V).sub (by decide))
  obtain ⟨V2, b1, b2, -, b4⟩ := lb_L (kb := kb) hP h T 0 FU V1 (by omega) (FU_gt (by omega)) (a2.sub (by decide))
  have aV : agr loC V (sv V2 409 0 0 (nI (16 * sg W C T))) := ((a2.app b2).app (agr_sv _ _ _ _ _)).sub (by decide)
  refine ⟨sv V2 409 0 0 (nI (16 * sg W C T)), ?_, aV, sv_at _ _ _ _ _, fun c hc => ?_, fun t ht => ?_⟩
  · unfold f_X5_arrange
    rw [jn_def]
    refine (a1 _).trans ?_
    rw [jn_def]
    refine (b1 _).trans ?_
    rw [lt_def, sv_at, show (16 : Int32) = nI 16 from rfl, has_C hkb (by decide) h1 (by omega), lt_def, aV 403 0 0 (by decide), hP.2.1]
    by_cases z : 16 * sg W C T + 16 ≤ 1024 * kb
    · rw [decide_eq_true z, if_pos rfl, if_pos z]
    · rw [decide_eq_false z, if_neg (show ¬ false = true by decide), if_neg z, lt_def]
  · have := a4 c (Nat.zero_le _) hc
    unfold LcC at this ⊢
    rw [sv_col (by decide), sv_col (by decide), sv_col (by decide), sv_col (by decide), b2 108 c 0 (by decide), b2 109 c 0 (by decide), b2 110 c 0 (by decide), b2 111 c 0 (by decide)]
    exact this
  · have := b4 t (Nat.zero_le _) ht
    unfold LtV at this ⊢
    rw [sv_col (by decide), sv_col (by decide)]
    exact this
