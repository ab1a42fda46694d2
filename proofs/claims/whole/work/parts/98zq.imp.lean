/-! frames by places -/
def agP (P : Nat → Nat → Nat → Prop) (V V' : HV) : Prop := ∀ c o j, ¬ P c o j → V' c o j = V c o j
theorem agP_rfl (P : Nat → Nat → Nat → Prop) (V : HV) : agP P V V := fun _ _ _ _ => rfl
theorem agP.trans {P : Nat → Nat → Nat → Prop} {V V' V'' : HV} (h1 : agP P V V') (h2 : agP P V' V'') : agP P V V'' := fun c o j h => (h2 c o j h).trans (h1 c o j h)
theorem agP.mono {P Q : Nat → Nat → Nat → Prop} {V V' : HV} (h : agP P V V') (hq : ∀ c o j, P c o j → Q c o j) : agP Q V V' := fun c o j z => h c o j (fun y => z (hq c o j y))
theorem agP_sv {P : Nat → Nat → Nat → Prop} (V : HV) {c o j : Nat} (x : Int32) (h : P c o j) : agP P V (sv V c o j x) := fun c' o' j' z => sv_ne (fun q => z (by rw [q.1, q.2.1, q.2.2]; exact h))
theorem agP_agr {P : Nat → Nat → Nat → Prop} {cs : List Nat} {V V' : HV} (h : agr cs V V') (hs : ∀ c ∈ cs, ∀ o j, P c o j) : agP P V V' := fun c o j z => h c o j (fun q => z (hs c q o j))
def pC (k : Nat) (c o j : Nat) : Prop := c = 402 ∨ c = 404 ∨ c = 405 ∨ (o = k ∧ (c = 102 ∨ c = 103 ∨ c = 104 ∨ c = 105 ∨ c = 106 ∨ c = 107 ∨ c = 2700 ∨ c = 2800))
def pE (k : Nat) (c o j : Nat) : Prop := c = 402 ∨ c = 404 ∨ c = 405 ∨ (o = k ∧ (c = 2700 ∨ c = 2800))
def pM (k : Nat) (c o j : Nat) : Prop := c = 1014 ∨ c = 1015 ∨ c = 1016 ∨ (j = k ∧ (c = 8800 ∨ c = 8900 ∨ c = 4400 ∨ c = 9000 ∨ c = 9500)) ∨ (8 * k ≤ j ∧ j < 8 * k + 8 ∧ (c = 4500 ∨ c = 4600)) ∨ (16 * k ≤ j ∧ j < 16 * k + 16 ∧ (c = 9100 ∨ c = 9200 ∨ c = 9300 ∨ c = 9400))
def pX (k : Nat) (c o j : Nat) : Prop := c = 1014 ∨ c = 1015 ∨ c = 1016 ∨ (8 * k ≤ j ∧ j < 8 * k + 8 ∧ (c = 4500 ∨ c = 4600))
def pI (i : Nat) (c o j : Nat) : Prop := c = 1014 ∨ c = 1015 ∨ c = 1016 ∨ (j = i ∧ (c = 9100 ∨ c = 9200 ∨ c = 9300 ∨ c = 9400))
def pJ (k : Nat) (c o j : Nat) : Prop := c = 1014 ∨ c = 1015 ∨ c = 1016 ∨ (16 * k ≤ j ∧ j < 16 * k + 16 ∧ (c = 9100 ∨ c = 9200 ∨ c = 9300 ∨ c = 9400))
theorem an_C {P : Nat → Nat → Nat → Prop} {V V' : HV} (h : agr [402, 404, 405] V V') (h1 : ∀ o j, P 402 o j) (h2 : ∀ o j, P 404 o j) (h3 : ∀ o j, P 405 o j) : agP P V V' := agP_agr h (fun c hc o j => by
  simp only [List.mem_cons, List.not_mem_nil, or_false] at hc
  rcases hc with rfl | rfl | rfl
  · exact h1 o j
  · exact h2 o j
  · exact h3 o j)
theorem an_M {P : Nat → Nat → Nat → Prop} {V V' : HV} (h : agr [1014, 1015, 1016] V V') (h1 : ∀ o j, P 1014 o j) (h2 : ∀ o j, P 1015 o j) (h3 : ∀ o j, P 1016 o j) : agP P V V' := agP_agr h (fun c hc o j => by
  simp only [List.mem_cons, List.not_mem_nil, or_false] at hc
  rcases hc with rfl | rfl | rfl
  · exact h1 o j
  · exact h2 o j
  · exact h3 o j)
theorem nE {k : Nat} {V V' : HV} (h : agr [402, 404, 405] V V') : agP (pE k) V V' := an_C h (fun _ _ => Or.inl rfl) (fun _ _ => Or.inr (Or.inl rfl)) (fun _ _ => Or.inr (Or.inr (Or.inl rfl)))
theorem nX {k : Nat} {V V' : HV} (h : agr [1014, 1015, 1016] V V') : agP (pX k) V V' := an_M h (fun _ _ => Or.inl rfl) (fun _ _ => Or.inr (Or.inl rfl)) (fun _ _ => Or.inr (Or.inr (Or.inl rfl)))
theorem nIi {k : Nat} {V V' : HV} (h : agr [1014, 1015, 1016] V V') : agP (pI k) V V' := an_M h (fun _ _ => Or.inl rfl) (fun _ _ => Or.inr (Or.inl rfl)) (fun _ _ => Or.inr (Or.inr (Or.inl rfl)))
/-- a fault stays -/
def fst (V V' : HV) : Prop := ¬ V 404 0 0 = 0 → V' 404 0 0 = V 404 0 0 ∧ V' 405 0 0 = V 405 0 0
theorem fst.trans {V V' V'' : HV} (h1 : fst V V') (h2 : fst V' V'') : fst V V'' := fun q => by
  obtain ⟨a, b⟩ := h1 q
  obtain ⟨c, d⟩ := h2 (by rw [a]; exact q)
  exact ⟨c.trans a, d.trans b⟩
theorem fst_eq {V V' : HV} (h : ¬ V 404 0 0 = 0 → V' = V) : fst V V' := fun q => by rw [h q]; exact ⟨rfl, rfl⟩
theorem fst_sv {V V' : HV} {c o j : Nat} {x : Int32} (h : fst V V') (h1 : ¬ 404 = c) (h2 : ¬ 405 = c) : fst V (sv V' c o j x) := fun q => by
  rw [sv_col h1, sv_col h2]; exact h q
/-! the exports of a compartment -/
theorem ex_L {kb n c w e : Nat} {B : Nat → Nat} (hc : c < 8) (he : e ≤ 8) (hw1 : 1 ≤ w) (hw : w ≤ 200) : ∀ (r k f f' : Nat) (V W : HV), k + r = e → r < f → r < f' → PR n B V W → V 104 c 0 = nI e → W 4400 0 c = nI e → V 102 c 0 = nI w → W 8800 0 c = nI w → ∃ V' W', (∀ K : HV → Option HV, f_X5_readCompartment_L51 0 c kb K f (nI k) V = K V') ∧ (∀ K : HV → Option HV, f_X12_readCompartment_L59 0 (nI c) K f' (nI k) W = K W') ∧ PR n B V' W' ∧ agP (pE c) V V' ∧ agP (pX c) W W' ∧ fst V V' ∧ (∀ j, j < k → V' 2700 c j = V 2700 c j ∧ V' 2800 c j = V 2800 c j ∧ W' 4500 0 (8 * c + j) = W 4500 0 (8 * c + j) ∧ W' 4600 0 (8 * c + j) = W 4600 0 (8 * c + j)) ∧ (∀ j, k ≤ j → j < e → ∃ x y, x < w ∧ 1 ≤ y ∧ y ≤ 3 ∧ V' 2700 c j = nI x ∧ W' 4500 0 (8 * c + j) = nI x ∧ V' 2800 c j = nI y ∧ W' 4600 0 (8 * c + j) = nI y)
  | _, _, 0, _, _, _, _, hf, _, _, _, _, _, _ => absurd hf (by omega)
  | _, _, _, 0, _, _, _, _, hf, _, _, _, _, _ => absurd hf (by omega)
  | 0, k, f + 1, f' + 1, V, W, hk, _, _, h, h4, g4, h2, g2 => by
    refine ⟨V, W, fun K => ?_, fun K => ?_, h, agP_rfl _ V, agP_rfl _ W, fun _ => ⟨rfl, rfl⟩, fun _ _ => ⟨rfl, rfl, rfl, rfl⟩, fun j h1 h2 => by omega⟩
    · unfold f_X5_readCompartment_L51
      rw [h4, if_pos (nI_le (by omega) (by omega))]
    · unfold f_X12_readCompartment_L59
      rw [chk_t (inb_nI hc (by decide)), cl_nI (by omega), g4, if_pos (nI_le (by omega) (by omega))]
  | r + 1, k, f + 1, f' + 1, V, W, hk, hf, hf', h, h4, g4, h2, g2 => by
    have ic : inb (nI c) 8 := inb_nI hc (by decide)
    have ik : inb (nI k) 8 := inb_nI (by omega) (by decide)
    have ix : inb (nI (8 * c + k)) 64 := inb_nI (by omega) (by decide)
    have ew : nI w - 1 = nI (w - 1) := nI_sub (b := 1) hw1
    have e8 : (8 : Int32) * nI c + nI k = nI (8 * c + k) := by rw [show (8 : Int32) = nI 8 from rfl, pk_mul, nI_add]
    obtain ⟨v, V1, W1, a1, a2, a3, a4, a5, a6, a7, a8, -⟩ := num_all (kb := kb) (m := 2) (lo := 0) (hi := w - 1) h (Or.inr rfl) (Nat.zero_le _) (by omega)
    have p2 : PR n B (sv V1 2700 c k (nI v)) (sv W1 4500 0 (8 * c + k) (nI v)) := PR_fr a3 (agr_sv _ _ _ _ _) (agr_sv _ _ _ _ _) (by decide) (by decide)
    obtain ⟨u, V3, W3, b1, b2, b3, b4, b5, b6, b7, b8, -⟩ := num_all (kb := kb) (m := 1) (lo := 1) (hi := 3) p2 (Or.inl rfl) (by omega) (by omega)
    have p4 : PR n B (sv V3 2800 c k (nI u)) (sv W3 4600 0 (8 * c + k) (nI u)) := PR_fr b3 (agr_sv _ _ _ _ _) (agr_sv _ _ _ _ _) (by decide) (by decide)
    have fV : agP (pE c) V (sv V3 2800 c k (nI u)) := (((nE a6).trans (agP_sv V1 (nI v) (by unfold pE; omega))).trans (nE b6)).trans (agP_sv V3 (nI u) (by unfold pE; omega))
    have fW : agP (pX c) W (sv W3 4600 0 (8 * c + k) (nI u)) := (((nX a7).trans (agP_sv W1 (nI v) (by unfold pX; omega))).trans (nX b7)).trans (agP_sv W3 (nI u) (by unfold pX; omega))
    have ft : fst V (sv V3 2800 c k (nI u)) := fst_sv ((fst_sv (fst_eq a8) (by decide) (by decide)).trans (fst_eq b8)) (by decide) (by decide)
    have o1 : ∀ j, (sv V3 2800 c k (nI u)) 2700 c j = if j = k then nI v else V 2700 c j := fun j => by
      rw [sv_col (by decide), b6 2700 c j (by decide)]
      by_cases e : j = k
      · rw [if_pos e, e, sv_at]
      · rw [if_neg e, sv_ne (fun q => e q.2.2), a6 2700 c j (by decide)]
    have o2 : ∀ j, (sv V3 2800 c k (nI u)) 2800 c j = if j = k then nI u else V 2800 c j := fun j => by
      by_cases e : j = k
      · rw [if_pos e, e, sv_at]
      · rw [if_neg e, sv_ne (fun q => e q.2.2), b6 2800 c j (by decide), sv_col (by decide), a6 2800 c j (by decide)]
    have o3 : ∀ j, (sv W3 4600 0 (8 * c + k) (nI u)) 4500 0 (8 * c + j) = if j = k then nI v else W 4500 0 (8 * c + j) := fun j => by
      rw [sv_col (by decide), b7 4500 0 (8 * c + j) (by decide)]
      by_cases e : j = k
      · rw [if_pos e, e, sv_at]
      · rw [if_neg e, sv_ne (fun q => e (by omega)), a7 4500 0 (8 * c + j) (by decide)]
    have o4 : ∀ j, (sv W3 4600 0 (8 * c + k) (nI u)) 4600 0 (8 * c + j) = if j = k then nI u else W 4600 0 (8 * c + j) := fun j => by
      by_cases e : j = k
      · rw [if_pos e, e, sv_at]
      · rw [if_neg e, sv_ne (fun q => e (by omega)), b7 4600 0 (8 * c + j) (by decide), sv_col (by decide), a7 4600 0 (8 * c + j) (by decide)]
    have c4 : (sv V3 2800 c k (nI u)) 104 c 0 = nI e := (fV 104 c 0 (by unfold pE; omega)).trans h4
    have c2 : (sv V3 2800 c k (nI u)) 102 c 0 = nI w := (fV 102 c 0 (by unfold pE; omega)).trans h2
    have d4 : (sv W3 4600 0 (8 * c + k) (nI u)) 4400 0 c = nI e := (fW 4400 0 c (by unfold pX; omega)).trans g4
    have d2 : (sv W3 4600 0 (8 * c + k) (nI u)) 8800 0 c = nI w := (fW 8800 0 c (by unfold pX; omega)).trans g2
    obtain ⟨V', W', x1, x2, x3, x4, x5, x6, x7, x8⟩ := ex_L (kb := kb) (n := n) (B := B) hc he hw1 hw r (k + 1) f f' _ _ (by omega) (by omega) (by omega) p4 c4 d4 c2 d2
    refine ⟨V', W', fun K => ?_, fun K => ?_, x3, fV.trans x4, fW.trans x5, ft.trans x6, fun j hj => ?_, fun j hj1 hj2 => ?_⟩
    · unfold f_X5_readCompartment_L51
      rw [h4, if_neg (fun q => by have := (nI_leI (by omega) (by omega)).mp q; omega), if_neg (show ¬ (8 : Int32) ≤ nI k from fun q => by have := (nI_leI (a := 8) (by decide) (by omega)).mp q; omega), h2, ew, show f_X5_number kb 0 2 0 (nI (w - 1)) V = _ from a1, bnd_some]
      dsimp only
      rw [chk_t ik, lt_def, cl_nI (by omega), show f_X5_number kb 0 1 1 3 (sv V1 2700 c k (nI v)) = _ from b1, bnd_some]
      dsimp only
      rw [chk_t ik, lt_def, lt_def, nI_1]
      exact x1 K
    · unfold f_X12_readCompartment_L59
      rw [chk_t ic, cl_nI (show c < 2147483648 by omega), g4, if_neg (fun q => by have := (nI_leI (by omega) (by omega)).mp q; omega), chk_t ic, g2, ew, show f_X12_next 0 2 0 (nI (w - 1)) W = _ from a2, bnd_some]
      dsimp only
      rw [e8, chk_t ix, lt_def, cl_nI (by omega), show f_X12_next 0 1 1 3 (sv W1 4500 0 (8 * c + k) (nI v)) = _ from b2, bnd_some]
      dsimp only
      rw [chk_t ix, lt_def, lt_def, nI_1]
      exact x2 K
    · obtain ⟨y1, y2, y3, y4⟩ := x7 j (by omega)
      rw [y1, y2, y3, y4, o1, o2, o3, o4, if_neg (by omega), if_neg (by omega), if_neg (by omega), if_neg (by omega)]
      exact ⟨rfl, rfl, rfl, rfl⟩
    · by_cases e : j = k
      · obtain ⟨y1, y2, y3, y4⟩ := x7 k (by omega)
        rw [e, y1, y2, y3, y4, o1, o2, o3, o4, if_pos rfl, if_pos rfl, if_pos rfl, if_pos rfl]
        exact ⟨v, u, by omega, b4, b5, rfl, rfl, rfl, rfl⟩
      · exact x8 j (by omega) hj2
