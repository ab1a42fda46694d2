/-! all compartments' texts -/
def rCc : List Nat := [102, 103, 104, 105, 106, 107, 402, 404, 405, 2700, 2800]
def rMc : List Nat := [1014, 1015, 1016, 4400, 4500, 4600, 8800, 8900, 9000, 9100, 9200, 9300, 9400, 9500]
theorem agr_pC {k : Nat} {V V' : HV} (h : agP (pC k) V V') : agr rCc V V' := fun c o j hc => h c o j (fun z => hc (by
  unfold pC at z
  unfold rCc
  simp only [List.mem_cons, List.not_mem_nil, or_false]
  omega))
theorem agr_pM {k : Nat} {V V' : HV} (h : agP (pM k) V V') : agr rMc V V' := fun c o j hc => h c o j (fun z => hc (by
  unfold pM at z
  unfold rMc
  simp only [List.mem_cons, List.not_mem_nil, or_false]
  omega))
/-- in a fault only fault, place, end and tape count -/
theorem PR_flt {n : Nat} {B : Nat → Nat} {V V' W : HV} (h : PR n B V W) (hf : ¬ V 404 0 0 = 0) (h3 : V' 403 0 0 = V 403 0 0) (h4 : V' 404 0 0 = V 404 0 0) (h5 : V' 405 0 0 = V 405 0 0) (h31 : ∀ j, V' 3100 0 j = V 3100 0 j) : PR n B V' W := by
  obtain ⟨a1, a2, a3, a4, a5, a6, a7⟩ := h
  unfold PR
  rw [h3, h4, h5]
  exact ⟨a1, a2, a3, fun j hj => by rw [h31]; exact a4 j hj, a5, a6, fun z => absurd z hf⟩
theorem clf_L {kb n C : Nat} {B : Nat → Nat} (hC : C ≤ 8) : ∀ (r k f : Nat) (V W : HV), k + r = C → r < f → PR n B V W → ¬ V 404 0 0 = 0 → V 406 0 0 = nI C → ∃ V', (∀ K : HV → Option HV, f_X5_readImage_L26 0 kb K f (nI k) V = K V') ∧ PR n B V' W ∧ agr rCc V V' ∧ V' 404 0 0 = V 404 0 0
  | _, _, 0, _, _, _, hf, _, _, _ => absurd hf (by omega)
  | 0, k, f + 1, V, W, hk, _, h, hq, h6 => by
    refine ⟨V, fun K => ?_, h, (agr_rfl V).sub (by decide), rfl⟩
    unfold f_X5_readImage_L26
    rw [h6, if_pos (nI_le (by omega) (by omega))]
  | r + 1, k, f + 1, V, W, hk, hf, h, hq, h6 => by
    have ik : inb (nI k) 8 := inb_nI (by omega) (by decide)
    obtain ⟨V1, W1, a1, a2, a3, a4, a5, a6, a7⟩ := rc_all (kb := kb) (c := k) h (by omega)
    obtain ⟨g1, g2⟩ := a6 hq
    have b1 := agr_pC a4
    obtain ⟨V', x1, x2, x3, x4⟩ := clf_L (kb := kb) (n := n) (B := B) hC r (k + 1) f V1 W (by omega) (by omega) (PR_flt h hq (b1 403 0 0 (by decide)) g1 g2 (fun j => b1 3100 0 j (by decide))) (by rw [g1]; exact hq) ((b1 406 0 0 (by decide)).trans h6)
    refine ⟨V', fun K => ?_, x2, b1.trans x3, x4.trans g1⟩
    unfold f_X5_readImage_L26
    rw [h6, if_neg (fun q => by have := (nI_leI (by omega) (by omega)).mp q; omega), if_neg (show ¬ (8 : Int32) ≤ nI k from fun q => by have := (nI_leI (a := 8) (by decide) (by omega)).mp q; omega), chk_t ik, cl_nI (by omega), a1, bnd_some, lt_def, nI_1]
    exact x1 K
theorem cl_L {kb n C : Nat} {B : Nat → Nat} (hC : C ≤ 8) : ∀ (r k f f' : Nat) (V W : HV), k + r = C → r < f → r < f' → PR n B V W → V 406 0 0 = nI C → W 1018 0 0 = nI C → (V 404 0 0 = 0 → ∀ c, c < k → CI n B V W c) → ∃ V' W', (∀ K : HV → Option HV, f_X5_readImage_L26 0 kb K f (nI k) V = K V') ∧ (∀ K : HV → Option HV, f_X12_readAll_L31 0 K f' (nI k) W = K W') ∧ PR n B V' W' ∧ agr rCc V V' ∧ agr rMc W W' ∧ (V' 404 0 0 = 0 → V 404 0 0 = 0 ∧ ∀ c, c < C → CI n B V' W' c)
  | _, _, 0, _, _, _, _, hf, _, _, _, _, _ => absurd hf (by omega)
  | _, _, _, 0, _, _, _, _, hf, _, _, _, _ => absurd hf (by omega)
  | 0, k, f + 1, f' + 1, V, W, hk, _, _, h, h6, h8, hci => by
    refine ⟨V, W, fun K => ?_, fun K => ?_, h, (agr_rfl V).sub (by decide), (agr_rfl W).sub (by decide), fun q => ⟨q, fun c hc => hci q c (by omega)⟩⟩
    · unfold f_X5_readImage_L26
      rw [h6, if_pos (nI_le (by omega) (by omega))]
    · unfold f_X12_readAll_L31
      rw [h8, if_pos (nI_le (by omega) (by omega))]
  | r + 1, k, f + 1, f' + 1, V, W, hk, hf, hf', h, h6, h8, hci => by
    have ik : inb (nI k) 8 := inb_nI (by omega) (by decide)
    by_cases q : V 404 0 0 = 0
    · have q' : W 1015 0 0 = 0 := h.2.2.2.2.1.symm.trans q
      obtain ⟨V1, W1, a1, a2, a3, a4, a5, a6, a7⟩ := rc_all (kb := kb) (c := k) h (by omega)
      have b1 := agr_pC a4
      have b2 := agr_pM a5
      obtain ⟨V', W', x1, x2, x3, x4, x5, x6⟩ := cl_L (kb := kb) (n := n) (B := B) hC r (k + 1) f f' V1 W1 (by omega) (by omega) (by omega) a3 ((b1 406 0 0 (by decide)).trans h6) ((b2 1018 0 0 (by decide)).trans h8) (fun z c hc => by
        by_cases e : c = k
        · rw [e]; exact (a7 z).2
        · exact CI_fr (hci q c (by omega)) (by omega) a4 a5 (fun l j hl => by unfold pC; omega) (fun l hl => by unfold pM; omega) (fun l j hj hl => by unfold pM; omega) (fun l j hj hl => by unfold pM; omega))
      refine ⟨V', W', fun K => ?_, fun K => ?_, x3, b1.trans x4, b2.trans x5, fun z => ⟨q, (x6 z).2⟩⟩
      · unfold f_X5_readImage_L26
        rw [h6, if_neg (fun q => by have := (nI_leI (by omega) (by omega)).mp q; omega), if_neg (show ¬ (8 : Int32) ≤ nI k from fun q => by have := (nI_leI (a := 8) (by decide) (by omega)).mp q; omega), chk_t ik, cl_nI (by omega), a1, bnd_some, lt_def, nI_1]
        exact x1 K
      · unfold f_X12_readAll_L31
        rw [h8, if_neg (fun q => by have := (nI_leI (by omega) (by omega)).mp q; omega), if_pos q', a2, bnd_some, lt_def, nI_1]
        exact x2 K
    · have q' : ¬ W 1015 0 0 = 0 := fun z => q (h.2.2.2.2.1.trans z)
      obtain ⟨V', x1, x2, x3, x4⟩ := clf_L (kb := kb) (n := n) (B := B) hC (r + 1) k (f + 1) V W hk hf h q h6
      refine ⟨V', W, x1, fun K => ?_, x2, x3, (agr_rfl W).sub (by decide), fun z => absurd (x4.symm.trans z) q⟩
      unfold f_X12_readAll_L31
      rw [h8, if_neg (fun q => by have := (nI_leI (by omega) (by omega)).mp q; omega), if_neg q']
/-! the threads' texts -/
def pT (t : Nat) (c o j : Nat) : Prop := c = 1014 ∨ c = 1015 ∨ c = 1016 ∨ (j = t ∧ (c = 5100 ∨ c = 5500 ∨ c = 9600 ∨ c = 9700 ∨ c = 9800 ∨ c = 9900))
def tMc : List Nat := [1014, 1015, 1016, 5100, 5500, 9600, 9700, 9800, 9900]
theorem agr_pT {k : Nat} {V V' : HV} (h : agP (pT k) V V') : agr tMc V V' := fun c o j hc => h c o j (fun z => hc (by
  unfold pT at z
  unfold tMc
  simp only [List.mem_cons, List.not_mem_nil, or_false]
  omega))
theorem nT {k : Nat} {V V' : HV} (h : agr [1014, 1015, 1016] V V') : agP (pT k) V V' := an_M h (fun _ _ => Or.inl rfl) (fun _ _ => Or.inr (Or.inl rfl)) (fun _ _ => Or.inr (Or.inr (Or.inl rfl)))
def TI (B : Nat → Nat) (W : HV) (t p : Nat) : Prop := W 9600 0 t = nI p ∧ W 9700 0 t = nI (B p) ∧ W 9800 0 t = nI (B (p + 1)) ∧ W 5500 0 t = nI (B (p + 2)) ∧ W 9900 0 t = nI (B (p + 3)) ∧ W 5100 0 t = nI (B (p + 4)) ∧ B (p + 2) ≤ 7 ∧ 1 ≤ B (p + 3) ∧ B (p + 3) ≤ 32 ∧ B (p + 4) ≤ 16
/-- one number into a row of the reference, none in the class -/
theorem nst {kb n t lo hi l : Nat} {B : Nat → Nat} {V W : HV} (h : PR n B V W) (hlh : lo ≤ hi) (hhi : hi < 65536) (hl : l = 5100 ∨ l = 5500 ∨ l = 9600 ∨ l = 9700 ∨ l = 9800 ∨ l = 9900) : ∃ v V' W', f_X5_number kb 0 1 (nI lo) (nI hi) V = some (nI v, V') ∧ f_X12_next 0 1 (nI lo) (nI hi) W = some (nI v, W') ∧ PR n B V' (sv W' l 0 t (nI v)) ∧ lo ≤ v ∧ v ≤ hi ∧ agr [402, 404, 405] V V' ∧ agP (pT t) W (sv W' l 0 t (nI v)) ∧ (∀ c o j, c ≠ 1014 → c ≠ 1015 → c ≠ 1016 → c ≠ l → (sv W' l 0 t (nI v)) c o j = W c o j) ∧ (sv W' l 0 t (nI v)) l 0 t = nI v ∧ fst V V' ∧ (V' 404 0 0 = 0 → V 404 0 0 = 0 ∧ ∃ a, V 402 0 0 = nI a ∧ a + 1 ≤ n ∧ V' 402 0 0 = nI (a + 1) ∧ v = B a) := by
  obtain ⟨v, V', W', a1, a2, a3, a4, a5, a6, a7, a8, a9⟩ := num_all (kb := kb) (m := 1) h (Or.inl rfl) hlh hhi
  refine ⟨v, V', W', a1, a2, PR_fr a3 (agr_rfl V') (agr_sv W' l 0 t (nI v)) (by simp) (by simp; omega), a4, a5, a6, (nT a7).trans (agP_sv W' _ (by unfold pT; omega)), fun c o j h1 h2 h3 h4 => ?_, sv_at _ _ _ _ _, fst_eq a8, fun q => ?_⟩
  · rw [sv_col h4, a7 c o j (by simp; omega)]
  · obtain ⟨q0, a, e1, e2, e3, e4, e5, e6⟩ := a9 q
    exact ⟨q0, a, e1, e2, e3, by rw [e6]; rfl⟩
theorem th_1 {kb n t : Nat} {B : Nat → Nat} {V W : HV} (h : PR n B V W) (ht : t < 6) : ∃ V' W', (∀ K : HV → Option HV, (bnd (f_X5_number kb 0 1 0 255 V) fun p17 =>
    bnd (f_X5_number kb 0 1 0 255 p17.2) fun p18 =>
    bnd (f_X5_number kb 0 1 0 7 p18.2) fun p19 =>
    bnd (f_X5_number kb 0 1 1 32 p19.2) fun p20 =>
    bnd (f_X5_number kb 0 1 0 16 p20.2) fun p21 => K p21.2) = K V') ∧ (∀ K : HV → Option HV, (bnd (f_X12_next 0 1 0 255 (sv W 9600 0 t (W 1014 0 0))) fun p113 =>
    chk (inb (nI t) 6) <|
    lt (sv p113.2 9700 0 t p113.1) fun V115 =>
    bnd (f_X12_next 0 1 0 255 V115) fun p116 =>
    chk (inb (nI t) 6) <|
    lt (sv p116.2 9800 0 t p116.1) fun V118 =>
    bnd (f_X12_next 0 1 0 7 V118) fun p119 =>
    chk (inb (nI t) 6) <|
    lt (sv p119.2 5500 0 t p119.1) fun V121 =>
    bnd (f_X12_next 0 1 1 32 V121) fun p122 =>
    chk (inb (nI t) 6) <|
    lt (sv p122.2 9900 0 t p122.1) fun V124 =>
    bnd (f_X12_next 0 1 0 16 V124) fun p125 =>
    chk (inb (nI t) 6) <|
    lt (sv p125.2 5100 0 t p125.1) fun V127 => K V127) = K W') ∧ PR n B V' W' ∧ agr [402, 404, 405] V V' ∧ agP (pT t) W W' ∧ fst V V' ∧ (V' 404 0 0 = 0 → V 404 0 0 = 0 ∧ ∃ a, V 402 0 0 = nI a ∧ a + 5 ≤ n ∧ V' 402 0 0 = nI (a + 5) ∧ TI B W' t a) := by
  have it : inb (nI t) 6 := inb_nI ht (by decide)
  have hn := h.1
  have aW0 : agr [9600] W (sv W 9600 0 t (W 1014 0 0)) := agr_sv _ _ _ _ _
  have p0 : PR n B V (sv W 9600 0 t (W 1014 0 0)) := PR_fr h (agr_rfl V) aW0 (by decide) (by decide)
  have f0 : agP (pT t) W (sv W 9600 0 t (W 1014 0 0)) := agP_sv W _ (by unfold pT; omega)
  have w0 : (sv W 9600 0 t (W 1014 0 0)) 9600 0 t = W 1014 0 0 := sv_at _ _ _ _ _
  generalize sv W 9600 0 t (W 1014 0 0) = W0 at *
  obtain ⟨v1, V1, W1, a1, a2, a3, a4, a5, a6, a7, a8, a9, a10, a11⟩ := nst (kb := kb) (t := t) (lo := 0) (hi := 255) (l := 9700) p0 (by omega) (by omega) (by omega)
  obtain ⟨v2, V2, W2, b1, b2, b3, b4, b5, b6, b7, b8, b9, b10, b11⟩ := nst (kb := kb) (t := t) (lo := 0) (hi := 255) (l := 9800) a3 (by omega) (by omega) (by omega)
  obtain ⟨v3, V3, W3, c1, c2, c3, c4, c5, c6, c7, c8, c9, c10, c11⟩ := nst (kb := kb) (t := t) (lo := 0) (hi := 7) (l := 5500) b3 (by omega) (by omega) (by omega)
  obtain ⟨v4, V4, W4, d1, d2, d3, d4, d5, d6, d7, d8, d9, d10, d11⟩ := nst (kb := kb) (t := t) (lo := 1) (hi := 32) (l := 9900) c3 (by omega) (by omega) (by omega)
  obtain ⟨v5, V5, W5, e1, e2, e3, e4, e5, e6, e7, e8, e9, e10, e11⟩ := nst (kb := kb) (t := t) (lo := 0) (hi := 16) (l := 5100) d3 (by omega) (by omega) (by omega)
  refine ⟨V5, _, fun K => ?_, fun K => ?_, e3, (((a6.trans b6).trans c6).trans d6).trans e6, ((((f0.trans a7).trans b7).trans c7).trans d7).trans e7, (((a10.trans b10).trans c10).trans d10).trans e10, fun q => ?_⟩
  · rw [show f_X5_number kb 0 1 0 255 V = _ from a1, bnd_some]
    dsimp only
    rw [show f_X5_number kb 0 1 0 255 V1 = _ from b1, bnd_some]
    dsimp only
    rw [show f_X5_number kb 0 1 0 7 V2 = _ from c1, bnd_some]
    dsimp only
    rw [show f_X5_number kb 0 1 1 32 V3 = _ from d1, bnd_some]
    dsimp only
    rw [show f_X5_number kb 0 1 0 16 V4 = _ from e1, bnd_some]
  · rw [show f_X12_next 0 1 0 255 W0 = _ from a2, bnd_some]
    dsimp only
    rw [chk_t it, lt_def, show f_X12_next 0 1 0 255 (sv W1 9700 0 t (nI v1)) = _ from b2, bnd_some]
    dsimp only
    rw [chk_t it, lt_def, show f_X12_next 0 1 0 7 (sv W2 9800 0 t (nI v2)) = _ from c2, bnd_some]
    dsimp only
    rw [chk_t it, lt_def, show f_X12_next 0 1 1 32 (sv W3 5500 0 t (nI v3)) = _ from d2, bnd_some]
    dsimp only
    rw [chk_t it, lt_def, show f_X12_next 0 1 0 16 (sv W4 9900 0 t (nI v4)) = _ from e2, bnd_some]
    dsimp only
    rw [chk_t it, lt_def]
  · obtain ⟨q4, y1, y2, y3, y4, y5⟩ := e11 q
    obtain ⟨q3, x1, x2, x3, x4, x5⟩ := d11 q4
    obtain ⟨q2, m1, m2, m3, m4, m5⟩ := c11 q3
    obtain ⟨q1, k1, k2, k3, k4, k5⟩ := b11 q2
    obtain ⟨q0, l1, l2, l3, l4, l5⟩ := a11 q1
    have ek : k1 = l1 + 1 := nI_inj (by omega) (by omega) (k2.symm.trans l4)
    have em : m1 = l1 + 2 := by have := nI_inj (by omega) (by omega) (m2.symm.trans k4); omega
    have ex : x1 = l1 + 3 := by have := nI_inj (by omega) (by omega) (x2.symm.trans m4); omega
    have ey : y1 = l1 + 4 := by have := nI_inj (by omega) (by omega) (y2.symm.trans x4); omega
    rw [ek] at k5
    rw [em] at m5
    rw [ex] at x5
    rw [ey] at y5
    obtain ⟨a, z1, z2, z3⟩ := h.2.2.2.2.2.2 q0
    have ea : a = l1 := nI_inj (by omega) (by omega) (z2.symm.trans l2)
    refine ⟨q0, l1, l2, by omega, by rw [y4, ey], ?_, ?_, ?_, ?_, ?_, ?_, by omega, by omega, by omega, by omega⟩
    · rw [e8 _ _ _ (by decide) (by decide) (by decide) (by decide), d8 _ _ _ (by decide) (by decide) (by decide) (by decide), c8 _ _ _ (by decide) (by decide) (by decide) (by decide), b8 _ _ _ (by decide) (by decide) (by decide) (by decide), a8 _ _ _ (by decide) (by decide) (by decide) (by decide), w0, z3, ea]
    · rw [e8 _ _ _ (by decide) (by decide) (by decide) (by decide), d8 _ _ _ (by decide) (by decide) (by decide) (by decide), c8 _ _ _ (by decide) (by decide) (by decide) (by decide), b8 _ _ _ (by decide) (by decide) (by decide) (by decide), a9, l5]
    · rw [e8 _ _ _ (by decide) (by decide) (by decide) (by decide), d8 _ _ _ (by decide) (by decide) (by decide) (by decide), c8 _ _ _ (by decide) (by decide) (by decide) (by decide), b9, k5]
    · rw [e8 _ _ _ (by decide) (by decide) (by decide) (by decide), d8 _ _ _ (by decide) (by decide) (by decide) (by decide), c9, m5]
    · rw [e8 _ _ _ (by decide) (by decide) (by decide) (by decide), d9, x5]
    · rw [e9, y5]
theorem tlf_L {kb n T : Nat} {B : Nat → Nat} (hT : T ≤ 6) : ∀ (r k f : Nat) (V W : HV), k + r = T → r < f → PR n B V W → ¬ V 404 0 0 = 0 → V 407 0 0 = nI T → ∃ V', (∀ K : HV → Option HV, f_X5_readImage_L66 0 kb K f (nI k) V = K V') ∧ PR n B V' W ∧ agr [402, 404, 405] V V' ∧ V' 404 0 0 = V 404 0 0
  | _, _, 0, _, _, _, hf, _, _, _ => absurd hf (by omega)
  | 0, k, f + 1, V, W, hk, _, h, hq, h6 => by
    refine ⟨V, fun K => ?_, h, (agr_rfl V).sub (by decide), rfl⟩
    unfold f_X5_readImage_L66
    rw [h6, if_pos (nI_le (by omega) (by omega))]
  | r + 1, k, f + 1, V, W, hk, hf, h, hq, h6 => by
    obtain ⟨V1, W1, a1, a2, a3, b1, a5, a6, a7⟩ := th_1 (kb := kb) (t := k) h (by omega)
    obtain ⟨g1, g2⟩ := a6 hq
    obtain ⟨V', x1, x2, x3, x4⟩ := tlf_L (kb := kb) (n := n) (B := B) hT r (k + 1) f V1 W (by omega) (by omega) (PR_flt h hq (b1 403 0 0 (by decide)) g1 g2 (fun j => b1 3100 0 j (by decide))) (by rw [g1]; exact hq) ((b1 407 0 0 (by decide)).trans h6)
    refine ⟨V', fun K => ?_, x2, b1.trans x3, x4.trans g1⟩
    unfold f_X5_readImage_L66
    rw [h6, if_neg (fun q => by have := (nI_leI (by omega) (by omega)).mp q; omega)]
    refine (a1 (fun V2 => lt (nI k + 1) fun v22 => f_X5_readImage_L66 0 kb K f v22 V2)).trans ?_
    rw [lt_def, nI_1]
    exact x1 K
theorem tl_L {kb n T : Nat} {B : Nat → Nat} (hT : T ≤ 6) : ∀ (r k f f' : Nat) (V W : HV), k + r = T → r < f → r < f' → PR n B V W → V 407 0 0 = nI T → W 1019 0 0 = nI T → ∃ V' W', (∀ K : HV → Option HV, f_X5_readImage_L66 0 kb K f (nI k) V = K V') ∧ (∀ K : HV → Option HV, f_X12_readAll_L59 0 K f' (nI k) W = K W') ∧ PR n B V' W' ∧ agr [402, 404, 405] V V' ∧ agr tMc W W' ∧ (∀ j p, j < k → TI B W j p → TI B W' j p) ∧ (V' 404 0 0 = 0 → V 404 0 0 = 0 ∧ ∃ a, V 402 0 0 = nI a ∧ a + 5 * r ≤ n ∧ V' 402 0 0 = nI (a + 5 * r) ∧ ∀ j, j < r → TI B W' (k + j) (a + 5 * j))
  | _, _, 0, _, _, _, _, hf, _, _, _, _ => absurd hf (by omega)
  | _, _, _, 0, _, _, _, _, hf, _, _, _ => absurd hf (by omega)
  | 0, k, f + 1, f' + 1, V, W, hk, _, _, h, h6, h8 => by
    refine ⟨V, W, fun K => ?_, fun K => ?_, h, (agr_rfl V).sub (by decide), (agr_rfl W).sub (by decide), fun _ _ _ z => z, fun q => ⟨q, ?_⟩⟩
    · unfold f_X5_readImage_L66
      rw [h6, if_pos (nI_le (by omega) (by omega))]
    · unfold f_X12_readAll_L59
      rw [h8, if_pos (nI_le (by omega) (by omega))]
    · obtain ⟨a, b1, b2, b3⟩ := h.2.2.2.2.2.2 q
      exact ⟨a, b2, by omega, b2, fun j hj => by omega⟩
  | r + 1, k, f + 1, f' + 1, V, W, hk, hf, hf', h, h6, h8 => by
    have ik : inb (nI k) 6 := inb_nI (by omega) (by decide)
    by_cases q : V 404 0 0 = 0
    · have q' : W 1015 0 0 = 0 := h.2.2.2.2.1.symm.trans q
      obtain ⟨V1, W1, a1, a2, a3, b1, a5, a6, a7⟩ := th_1 (kb := kb) (t := k) h (by omega)
      have b2 := agr_pT a5
      obtain ⟨V', W', x1, x2, x3, x4, x5, x6, x7⟩ := tl_L (kb := kb) (n := n) (B := B) hT r (k + 1) f f' V1 W1 (by omega) (by omega) (by omega) a3 ((b1 407 0 0 (by decide)).trans h6) ((b2 1019 0 0 (by decide)).trans h8)
      refine ⟨V', W', fun K => ?_, fun K => ?_, x3, b1.trans x4, b2.trans x5, fun j p hj z => x6 j p (by omega) ?_, fun z => ?_⟩
      · unfold f_X5_readImage_L66
        rw [h6, if_neg (fun q => by have := (nI_leI (by omega) (by omega)).mp q; omega)]
        refine (a1 (fun V2 => lt (nI k + 1) fun v22 => f_X5_readImage_L66 0 kb K f v22 V2)).trans ?_
        rw [lt_def, nI_1]
        exact x1 K
      · unfold f_X12_readAll_L59
        rw [h8, if_neg (fun q => by have := (nI_leI (by omega) (by omega)).mp q; omega), if_pos q', chk_t ik, lt_def, cl_nI (by omega)]
        refine (a2 (fun V2 => lt (nI k + 1) fun v22 => f_X12_readAll_L59 0 K f' v22 V2)).trans ?_
        rw [lt_def, nI_1]
        exact x2 K
      · unfold TI at z ⊢
        rw [a5 9600 0 j (by unfold pT; omega), a5 9700 0 j (by unfold pT; omega), a5 9800 0 j (by unfold pT; omega), a5 5500 0 j (by unfold pT; omega), a5 9900 0 j (by unfold pT; omega), a5 5100 0 j (by unfold pT; omega)]
        exact z
      · obtain ⟨q1, a, y1, y2, y3, y4⟩ := x7 z
        obtain ⟨q0, a0, z1, z2, z3, z4⟩ := a7 q1
        have hn := h.1
        have ea : a = a0 + 5 := nI_inj (by omega) (by omega) (y1.symm.trans z3)
        refine ⟨q0, a0, z1, by omega, by rw [y3]; congr 1; omega, fun j hj => ?_⟩
        cases j with
        | zero => exact x6 k a0 (by omega) z4
        | succ j =>
          have := y4 j (by omega)
          rw [show k + 1 + j = k + (j + 1) by omega, ea, show a0 + 5 + 5 * j = a0 + 5 * (j + 1) by omega] at this
          exact this
    · have q' : ¬ W 1015 0 0 = 0 := fun z => q (h.2.2.2.2.1.trans z)
      obtain ⟨V', x1, x2, x3, x4⟩ := tlf_L (kb := kb) (n := n) (B := B) hT (r + 1) k (f + 1) V W hk hf h q h6
      refine ⟨V', W, x1, fun K => ?_, x2, x3, (agr_rfl W).sub (by decide), fun _ _ _ z => z, fun z => absurd (x4.symm.trans z) q⟩
      unfold f_X12_readAll_L59
      rw [h8, if_neg (fun q => by have := (nI_leI (by omega) (by omega)).mp q; omega), if_neg q']
