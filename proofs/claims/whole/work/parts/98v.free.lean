/-! one object's use changes -/
theorem srt_use {hi u : Nat} {o : Ob} {b : List Ob} (hu : u = 1 ∨ u = 2 ∨ u = 3) : ∀ (a : List Ob) (lo : Nat), srt hi lo (a ++ o :: b) → srt hi lo (a ++ (o.1, o.2.1, u) :: b)
  | [], lo, h => ⟨h.1, h.2.1, hu, h.2.2.2⟩
  | c :: a, lo, h => ⟨h.1, h.2.1, h.2.2.1, srt_use hu a _ h.2.2.2⟩
theorem lk_use {hi u : Nat} {o : Ob} {b : List Ob} : ∀ (a : List Ob) (lo : Nat), srt hi lo (a ++ o :: b) → ∀ g, lk (a ++ (o.1, o.2.1, u) :: b) g = if g = o.1 then (o.2.1, u) else lk (a ++ o :: b) g
  | [], lo, h, g => by
    show lk ((o.1, o.2.1, u) :: b) g = if g = o.1 then (o.2.1, u) else lk (o :: b) g
    unfold lk
    by_cases q : g = o.1
    · rw [if_pos q, if_pos q]
    · rw [if_neg q, if_neg q, if_neg q]
  | c :: a, lo, h, g => by
    show lk (c :: (a ++ (o.1, o.2.1, u) :: b)) g = if g = o.1 then (o.2.1, u) else lk (c :: (a ++ o :: b)) g
    unfold lk
    have ho : o ∈ a ++ o :: b := List.mem_append_right _ (List.mem_cons_self ..)
    have := srt_ge h.2.2.2 ho
    have := h.2.1
    by_cases q : g = c.1
    · rw [if_pos q, if_pos q, if_neg (by omega)]
    · rw [if_neg q, if_neg q]
      exact lk_use a _ h.2.2.2 g
theorem cnt_app (a b : List Ob) : cnt (a ++ b) = cnt a + cnt b ∧ gvn (a ++ b) = gvn a + gvn b ∧ hld (a ++ b) = hld a + hld b := by
  induction a with
  | nil => exact ⟨(Nat.zero_add _).symm, (Nat.zero_add _).symm, (Nat.zero_add _).symm⟩
  | cons c a ih =>
    obtain ⟨i1, i2, i3⟩ := ih
    refine ⟨?_, ?_, ?_⟩
    · show (if c.2.2 = 1 then 1 else 0) + cnt (a ++ b) = (if c.2.2 = 1 then 1 else 0) + cnt a + cnt b
      rw [i1, Nat.add_assoc]
    · show (if c.2.2 = 1 then c.2.1 else 0) + gvn (a ++ b) = (if c.2.2 = 1 then c.2.1 else 0) + gvn a + gvn b
      rw [i2, Nat.add_assoc]
    · show (if c.2.2 = 1 then 0 else c.2.1) + hld (a ++ b) = (if c.2.2 = 1 then 0 else c.2.1) + hld a + hld b
      rw [i3, Nat.add_assoc]
theorem rvk_app (a b : List Ob) (g : Nat) : rvk (a ++ b) g = (rvk a g || rvk b g) := by
  unfold rvk
  rw [List.any_append]
theorem rgn_map {Y : HV} {l l' : List Ob} {b t : Nat} {p : Int32} (hl : ∀ o, o ∈ l → ∃ o', o' ∈ l' ∧ o'.1 = o.1 ∧ o'.2.1 = o.2.1) (h : rgn Y l b t p) : rgn Y l' b t p := by
  rcases h with h | h | h | h | h | ⟨o, ho, h1, h2, h3⟩
  · exact Or.inl h
  · exact Or.inr (Or.inl h)
  · exact Or.inr (Or.inr (Or.inl h))
  · exact Or.inr (Or.inr (Or.inr (Or.inl h)))
  · exact Or.inr (Or.inr (Or.inr (Or.inr (Or.inl h))))
  · obtain ⟨o', q1, q2, q3⟩ := hl o ho
    exact Or.inr (Or.inr (Or.inr (Or.inr (Or.inr ⟨o', q1, by rw [q2]; exact h1, by rw [q2, q3]; exact h2, h3⟩))))
theorem gd_map {Y : HV} {l l' : List Ob} {c : Cp} (hl : ∀ o, o ∈ l → ∃ o', o' ∈ l' ∧ o'.1 = o.1 ∧ o'.2.1 = o.2.1) (h : gd Y l c) : gd Y l' c := ⟨h.1, h.2.1, fun q => ⟨(h.2.2 q).1, fun q2 => rgn_map hl ((h.2.2 q).2 q2)⟩⟩
theorem map_use {u : Nat} {o : Ob} {a b : List Ob} : ∀ x, x ∈ a ++ o :: b → ∃ o', o' ∈ a ++ (o.1, o.2.1, u) :: b ∧ o'.1 = x.1 ∧ o'.2.1 = x.2.1 := by
  intro x hx
  rw [List.mem_append, List.mem_cons] at hx
  rcases hx with hx | rfl | hx
  · exact ⟨x, List.mem_append_left _ hx, rfl, rfl⟩
  · exact ⟨(x.1, x.2.1, u), List.mem_append_right _ (List.mem_cons_self ..), rfl, rfl⟩
  · exact ⟨x, List.mem_append_right _ (List.mem_cons_of_mem _ hx), rfl, rfl⟩
theorem map_sw {u : Nat} {o : Ob} {a b : List Ob} (hu : u ≠ 3) : ∀ x, x ∈ sw (a ++ o :: b) → ∃ o', o' ∈ sw (a ++ (o.1, o.2.1, u) :: b) ∧ o'.1 = x.1 ∧ o'.2.1 = x.2.1 := by
  intro x hx
  unfold sw at hx ⊢
  rw [List.mem_filter, List.mem_append, List.mem_cons] at hx
  obtain ⟨hx, h3⟩ := hx
  rcases hx with hx | rfl | hx
  · exact ⟨x, List.mem_filter.mpr ⟨List.mem_append_left _ hx, h3⟩, rfl, rfl⟩
  · exact ⟨(x.1, x.2.1, u), List.mem_filter.mpr ⟨List.mem_append_right _ (List.mem_cons_self ..), decide_eq_true hu⟩, rfl, rfl⟩
  · exact ⟨x, List.mem_filter.mpr ⟨List.mem_append_right _ (List.mem_cons_of_mem _ hx), h3⟩, rfl, rfl⟩
/-! marks of a row of granules -/
theorem rv_L {kb g n : Nat} {on : Bool} {K : HV → Option HV} (hkb : kb ≤ 32) (hg : g + n ≤ 64 * kb) : ∀ (r i f : Nat) (V : HV) (T R : Nat → Bool), i + r = n → r < f → (∀ q, q < 64 * kb → V 2400 0 q = mk (T q) (R q)) → ∃ V', f_X4_revoke_L3 0 (nI g) (nI n) on kb K f (nI i) V = K V' ∧ agr [2400] V V' ∧ (∀ q, q < 64 * kb → V' 2400 0 q = mk (T q) (if g + i ≤ q ∧ q < g + n then on else R q))
  | _, _, 0, _, _, _, _, hf, _ => absurd hf (by omega)
  | 0, i, f + 1, V, T, R, hi, _, hm => by
    unfold f_X4_revoke_L3
    rw [if_pos (nI_le (by omega) (by omega))]
    refine ⟨V, rfl, (agr_rfl V).sub (by decide), fun q hq => ?_⟩
    rw [if_neg (by omega)]; exact hm q hq
  | r + 1, i, f + 1, V, T, R, hi, hf, hm => by
    have e : (nI g + nI i) * 16 = nI (16 * (g + i)) := by rw [nI_add, show (16 : Int32) = nI 16 from rfl, pk_mul, Nat.mul_comm]
    have mk2 := mark2_C (kb := kb) (a := 16 * (g + i)) (b := on) (V := V) hkb (by omega) (by rw [show 16 * (g + i) / 16 = g + i by omega]; exact hm (g + i) (by omega))
    rw [show 16 * (g + i) / 16 = g + i by omega] at mk2
    unfold f_X4_revoke_L3
    rw [if_neg (fun q => by have := (nI_leI (by omega) (by omega)).mp q; omega), e, mk2, bnd_some, lt_def, nI_1]
    obtain ⟨V', e1, e2, e3⟩ := rv_L (on := on) (K := K) hkb hg r (i + 1) f (sv V 2400 0 (g + i) (mk (T (g + i)) on)) T (fun q => if q = g + i then on else R q) (by omega) (by omega) (fun q hq => by
      by_cases z : q = g + i
      · rw [z, sv_at, if_pos rfl]
      · rw [sv_ne (fun y => z y.2.2), if_neg z]; exact hm q hq)
    refine ⟨V', e1, (agr_sv V 2400 0 _ _).trans e2, fun q hq => ?_⟩
    rw [e3 q hq]
    by_cases z : q = g + i
    · rw [if_neg (by omega), if_pos z, if_pos (by omega)]
    · by_cases y : g + (i + 1) ≤ q ∧ q < g + n
      · rw [if_pos y, if_pos (by omega)]
      · rw [if_neg y, if_neg z, if_neg (by omega)]
theorem revoke_C {kb g n : Nat} {on : Bool} {V : HV} {T R : Nat → Bool} (hkb : kb ≤ 32) (hg : g + n ≤ 64 * kb) (hm : ∀ q, q < 64 * kb → V 2400 0 q = mk (T q) (R q)) : ∃ V', f_X4_revoke kb 0 0 (nI g) (nI n) on V = some V' ∧ agr [2400] V V' ∧ (∀ q, q < 64 * kb → V' 2400 0 q = mk (T q) (if g ≤ q ∧ q < g + n then on else R q)) := by
  unfold f_X4_revoke
  rw [jn_def]
  exact rv_L hkb hg n 0 FU V T R (by omega) (FU_gt (by omega)) hm
theorem fr_L8 {x1 g n : Nat} {K : HV → Option (Bool × HV)} (hx : x1 < 600) (hg : g + n ≤ 2048) : ∀ (r i f : Nat) (W : HV), i + r = n → r < f → W 2600 0 x1 = nI (16 * (g + n)) → ∃ W', f_X12_free_L108 (nI x1) K f (nI (16 * (g + i))) W = K W' ∧ agr [2300] W W' ∧ (∀ q, i2b (W' 2300 0 q) = if g + i ≤ q ∧ q < g + n then true else i2b (W 2300 0 q))
  | _, _, 0, _, _, hf, _ => absurd hf (by omega)
  | 0, i, f + 1, W, hi, _, ht => by
    unfold f_X12_free_L108
    rw [chk_t (inb_nI hx (by decide)), cl_nI (by omega), ht, if_pos (nI_le (by omega) (by omega))]
    exact ⟨W, rfl, (agr_rfl W).sub (by decide), fun q => by rw [if_neg (by omega)]⟩
  | r + 1, i, f + 1, W, hi, hf, ht => by
    unfold f_X12_free_L108
    have e16 : nI (16 * (g + i)) + 16 = nI (16 * (g + (i + 1))) := by rw [show (16 : Int32) = nI 16 from rfl, nI_add]; congr 1
    rw [chk_t (inb_nI hx (by decide)), cl_nI (by omega), ht, if_neg (fun q => by have := (nI_leI (by omega) (by omega)).mp q; omega), dv16 (by omega), show 16 * (g + i) / 16 = g + i by omega, chk_t (inb_nI (by omega) (by decide)), lt_def, lt_def, cl_nI (by omega), e16]
    obtain ⟨W', e1, e2, e3⟩ := fr_L8 (K := K) hx hg r (i + 1) f (sv W 2300 0 (g + i) (b2i true)) (by omega) (by omega) ((sv_col (by decide)).trans ht)
    refine ⟨W', e1, (agr_sv W 2300 0 _ _).trans e2, fun q => ?_⟩
    rw [e3 q]
    by_cases z : q = g + i
    · rw [if_neg (by omega), z, sv_at, i2b_b2i, if_pos (by omega)]
    · by_cases y : g + (i + 1) ≤ q ∧ q < g + n
      · rw [if_pos y, if_pos (by omega)]
      · rw [if_neg y, sv_ne (fun y => z y.2.2), if_neg (by omega)]
/-- is it this object's whole capability -/
def fo (c : Cp) (o : Ob) : Prop := o.2.2 = 1 ∧ nI (16 * o.1) = c.2.1 ∧ nI (16 * (o.1 + o.2.1)) = c.2.2.1
theorem fr_none {x1 : Nat} {c : Cp} {W : HV} {K : Int32 → Option (Bool × HV)} (hx : x1 < 600) (hc : cM W x1 = c) : ∀ (l : List Ob) (k f : Nat), (∀ o, o ∈ l → ¬ fo c o) → (∀ i o, l[i]? = some o → W 7600 0 (k + i) = nI (16 * o.1) ∧ W 7700 0 (k + i) = nI (16 * o.2.1) ∧ i2b (W 7800 0 (k + i)) = decide (o.2.2 ≠ 1)) → W 1055 0 0 = nI (k + l.length) → k + l.length ≤ 2048 → l.length < f → f_X12_free_L33 0 (nI x1) W K f (nI k) = some (false, W)
  | _, _, 0, _, _, _, _, hf => absurd hf (by omega)
  | [], k, f + 1, _, ha, hn, hk, hf => by
    unfold f_X12_free_L33
    rw [hn, if_pos (show nI (k + ([] : List Ob).length) ≤ nI k from nI_le (by simp) (by simp at hk; omega))]
  | o :: l, k, f + 1, hno, ha, hn, hk, hf => by
    have hk' : k + l.length + 1 ≤ 2048 := by simp only [List.length_cons] at hk; omega
    have hf' : l.length < f := by simp only [List.length_cons] at hf; omega
    have ik : inb (nI k) 2049 := inb_nI (by omega) (by decide)
    have ix : inb (nI x1) 600 := inb_nI hx (by decide)
    obtain ⟨a1, a2, a3⟩ := ha 0 o rfl
    rw [Nat.add_zero] at a1 a2 a3
    have rest : f_X12_free_L33 0 (nI x1) W K f (nI k + 1) = some (false, W) := by
      rw [nI_1]
      exact fr_none hx hc l (k + 1) f (fun o' ho' => hno o' (List.mem_cons_of_mem _ ho')) (fun i o' hi' => by
        have := ha (i + 1) o' hi'
        rw [show k + (i + 1) = k + 1 + i by omega] at this
        exact this) (by rw [hn]; congr 1; simp only [List.length_cons]; omega) (by omega) hf'
    have hno0 := hno o (List.mem_cons_self ..)
    unfold f_X12_free_L33
    rw [hn, if_neg (fun q => by have := (nI_leI (by simp only [List.length_cons]; omega) (by omega)).mp q; simp only [List.length_cons] at this; omega), chk_t ik, jn_def, lt_def, rest, cl_nI (by omega), a3]
    by_cases q : o.2.2 = 1
    · rw [decide_eq_false (fun z => z q), if_neg (show ¬ false = true by decide), chk_t ik, chk_t ix, cl_nI (by omega), a1, a2, cM_1 hc, cM_2 hc, nI_add, show 16 * o.1 + 16 * o.2.1 = 16 * (o.1 + o.2.1) by omega]
      by_cases q1 : nI (16 * o.1) = c.2.1
      · rw [if_pos q1, chk_t ik, chk_t ik, chk_t ix, if_neg (fun q2 => hno0 ⟨q, q1, q2⟩)]
      · rw [if_neg q1]
    · rw [decide_eq_true q, if_pos rfl]
theorem fr_some {x1 : Nat} {c : Cp} {o : Ob} {b : List Ob} {W : HV} {K : Int32 → Option (Bool × HV)} (hx : x1 < 600) (hc : cM W x1 = c) (ho : fo c o) : ∀ (a : List Ob) (k f : Nat), (∀ o, o ∈ a → ¬ fo c o) → (∀ i o', (a ++ o :: b)[i]? = some o' → W 7600 0 (k + i) = nI (16 * o'.1) ∧ W 7700 0 (k + i) = nI (16 * o'.2.1) ∧ i2b (W 7800 0 (k + i)) = decide (o'.2.2 ≠ 1)) → W 1055 0 0 = nI (k + (a ++ o :: b).length) → k + (a ++ o :: b).length ≤ 2048 → a.length < f → f_X12_free_L33 0 (nI x1) W K f (nI k) = K (nI (k + a.length))
  | _, _, 0, _, _, _, _, hf => absurd hf (by omega)
  | [], k, f + 1, _, ha, hn, hk, hf => by
    have hk' : k + b.length + 1 ≤ 2048 := by simp only [List.nil_append, List.length_cons] at hk; omega
    have ik : inb (nI k) 2049 := inb_nI (by omega) (by decide)
    have ix : inb (nI x1) 600 := inb_nI hx (by decide)
    obtain ⟨a1, a2, a3⟩ := ha 0 o rfl
    rw [Nat.add_zero] at a1 a2 a3
    obtain ⟨o1, o2, o3⟩ := ho
    unfold f_X12_free_L33
    rw [hn, if_neg (fun q => by have := (nI_leI (by simp only [List.nil_append, List.length_cons]; omega) (by omega)).mp q; simp only [List.nil_append, List.length_cons] at this; omega), chk_t ik, jn_def, cl_nI (by omega), a3, decide_eq_false (fun z => z o1), if_neg (show ¬ false = true by decide), chk_t ik, chk_t ix, cl_nI (by omega), a1, a2, cM_1 hc, cM_2 hc, nI_add, show 16 * o.1 + 16 * o.2.1 = 16 * (o.1 + o.2.1) by omega, if_pos o2, chk_t ik, chk_t ik, chk_t ix, if_pos o3]
    rfl
  | d :: a, k, f + 1, hno, ha, hn, hk, hf => by
    have hk' : k + (a ++ o :: b).length + 1 ≤ 2048 := by simp only [List.cons_append, List.length_cons] at hk; omega
    have hf' : a.length < f := by simp only [List.length_cons] at hf; omega
    have ik : inb (nI k) 2049 := inb_nI (by omega) (by decide)
    have ix : inb (nI x1) 600 := inb_nI hx (by decide)
    obtain ⟨a1, a2, a3⟩ := ha 0 d rfl
    rw [Nat.add_zero] at a1 a2 a3
    have rest : f_X12_free_L33 0 (nI x1) W K f (nI k + 1) = K (nI (k + 1 + a.length)) := by
      rw [nI_1]
      exact fr_some hx hc ho a (k + 1) f (fun o' ho' => hno o' (List.mem_cons_of_mem _ ho')) (fun i o' hi' => by
        have := ha (i + 1) o' hi'
        rw [show k + (i + 1) = k + 1 + i by omega] at this
        exact this) (by rw [hn]; congr 1; simp only [List.cons_append, List.length_cons]; omega) (by omega) hf'
    have hno0 := hno d (List.mem_cons_self ..)
    unfold f_X12_free_L33
    rw [hn, if_neg (fun q => by have := (nI_leI (by simp only [List.cons_append, List.length_cons]; omega) (by omega)).mp q; simp only [List.cons_append, List.length_cons] at this; omega), chk_t ik, jn_def, lt_def, rest, cl_nI (by omega), a3, List.length_cons, show k + (a.length + 1) = k + 1 + a.length by omega]
    by_cases q : d.2.2 = 1
    · rw [decide_eq_false (fun z => z q), if_neg (show ¬ false = true by decide), chk_t ik, chk_t ix, cl_nI (by omega), a1, a2, cM_1 hc, cM_2 hc, nI_add, show 16 * d.1 + 16 * d.2.1 = 16 * (d.1 + d.2.1) by omega]
      by_cases q1 : nI (16 * d.1) = c.2.1
      · rw [if_pos q1, chk_t ik, chk_t ik, chk_t ix, if_neg (fun q2 => hno0 ⟨q, q1, q2⟩)]
      · rw [if_neg q1]
    · rw [decide_eq_true q, if_pos rfl]
