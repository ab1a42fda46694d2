/-! heap(what) -/
def lp : List Ob → Nat → Int32
  | [], _ => -1
  | o :: l, k => if o.2.2 = 1 then (if k = 0 then nI (16 * o.1) else lp l (k - 1)) else lp l k
def sp (d : Int32) : Nat → List Ob → Int32 → Int32
  | _, [], s => s
  | m, o :: l, s => if o.2.2 = 1 then sp d (m + 1) l (if nI m = d then nI (16 * o.1) else s) else sp d m l s
theorem sp_no {k0 : Nat} (hk : k0 < 2147483648) : ∀ (l : List Ob) (m : Nat) (s : Int32), k0 < m → m + l.length < 2147483648 → sp (nI k0) m l s = s
  | [], _, _, _, _ => rfl
  | o :: l, m, s, h, h2 => by
    simp only [List.length_cons] at h2
    unfold sp
    by_cases q : o.2.2 = 1
    · rw [if_pos q, if_neg (fun z => by have := nI_inj (by omega) hk z; omega)]
      exact sp_no hk l (m + 1) s (by omega) (by omega)
    · rw [if_neg q]
      exact sp_no hk l m s h (by omega)
theorem sp_lp {k0 : Nat} (hk : k0 < 2147483648) : ∀ (l : List Ob) (m : Nat), m ≤ k0 → m + l.length < 2147483648 → sp (nI k0) m l (-1) = lp l (k0 - m)
  | [], _, _, _ => rfl
  | o :: l, m, h, h2 => by
    simp only [List.length_cons] at h2
    unfold sp lp
    by_cases q : o.2.2 = 1
    · rw [if_pos q, if_pos q]
      by_cases e : m = k0
      · rw [if_pos (by rw [e]), if_pos (by omega)]
        exact sp_no hk l (m + 1) _ (by omega) (by omega)
      · rw [if_neg (fun z => e (nI_inj (by omega) hk z)), if_neg (by omega), show k0 - m - 1 = k0 - (m + 1) by omega]
        exact sp_lp hk l (m + 1) (by omega) (by omega)
    · rw [if_neg q, if_neg q]
      exact sp_lp hk l m h (by omega)
theorem po_gap {kb e : Nat} {V : HV} {K : Int32 → Option Int32} (hkb : kb ≤ 32) (he : e ≤ 64 * kb) (v : Int32) : ∀ (r p f : Nat), p + r = e → (∀ g, p ≤ g → g < e → V 2500 0 g = 0 ∧ V 2600 0 g = 0) → r < f → f_X4_placeOf_L7 kb V K f v (nI p) = f_X4_placeOf_L7 kb V K (f - r) v (nI e)
  | 0, p, f, hr, _, _ => by rw [show p = e by omega, Nat.sub_zero]
  | r + 1, p, 0, _, _, hf => absurd hf (by omega)
  | r + 1, p, f + 1, hr, hz, hf => by
    have ip : inb (nI p) (64 * kb) := inb_nI (by omega) (by omega)
    have z := hz p (Nat.le_refl _) (by omega)
    conv => lhs; unfold f_X4_placeOf_L7
    rw [ofNat_nI, if_neg (fun q => by have := (nI_leI (by omega) (by omega)).mp q; omega), chk_t ip, jn_def, cl_nI (by omega), z.2, if_neg (show ¬ (0 : Int32) = 1 by decide)]
    dsimp only
    rw [chk_t ip, lt_def, z.1, show (0 : Int32) = nI 0 from rfl, max_C (by decide), lt_def, if_neg (show ¬ 1 < 0 by decide), nI_add, po_gap hkb he v r (p + 1) f (by omega) (fun g h1 h2 => hz g (by omega) h2) (by omega), show f + 1 - (r + 1) = f - r by omega]
theorem po_L {kb : Nat} {V : HV} (hkb : kb ≤ 32) : ∀ (l : List Ob) (p f k : Nat), k < 2147483648 → srt (64 * kb) p l → (∀ g, p ≤ g → g < 64 * kb → V 2500 0 g = nI (lk l g).1 ∧ V 2600 0 g = nI (lk l g).2) → 64 * kb - p + 1 < f → f_X4_placeOf_L7 kb V (fun v4 => some (v4 * 16)) f (nI k) (nI p) = some (lp l k)
  | [], p, f, k, hk, hs, hz, hf => by
    have hle : p ≤ 64 * kb := hs
    rw [po_gap hkb (Nat.le_refl _) (nI k) (64 * kb - p) p f (by omega) (fun g h1 h2 => hz g h1 h2) (by omega)]
    obtain ⟨f', e⟩ : ∃ f', f - (64 * kb - p) = f' + 1 := ⟨f - (64 * kb - p) - 1, by omega⟩
    rw [e]
    unfold f_X4_placeOf_L7
    rw [ofNat_nI, if_pos (nI_le (Nat.le_refl _) (by omega))]
    rfl
  | o :: l, p, f, k, hk, hs, hz, hf => by
    obtain ⟨h1, h2, h3, h4⟩ := hs
    have hle := srt_le h4
    obtain ⟨f', ef⟩ : ∃ f', f - (o.1 - p) = f' + 1 := ⟨f - (o.1 - p) - 1, by omega⟩
    have zo : V 2500 0 o.1 = nI o.2.1 ∧ V 2600 0 o.1 = nI o.2.2 := by
      have := hz o.1 h1 (by omega)
      unfold lk at this
      rw [if_pos rfl] at this
      exact this
    have ip : inb (nI o.1) (64 * kb) := inb_nI (by omega) (by omega)
    have emax : (if 1 < o.2.1 then o.2.1 else 1) = o.2.1 := by
      by_cases q : 1 < o.2.1
      · rw [if_pos q]
      · rw [if_neg q]; omega
    have ih : ∀ k', k' < 2147483648 → f_X4_placeOf_L7 kb V (fun v4 => some (v4 * 16)) f' (nI k') (nI (o.1 + o.2.1)) = some (lp l k') := fun k' hk' => po_L hkb l (o.1 + o.2.1) f' k' hk' h4 (fun g y1 y2 => by
      have := hz g (by omega) y2
      unfold lk at this
      rw [if_neg (by omega)] at this
      exact this) (by omega)
    rw [po_gap (e := o.1) hkb (by omega) (nI k) (o.1 - p) p f (by omega) (fun g y1 y2 => by
        have := hz g y1 (by omega)
        have e0 : lk (o :: l) g = (0, 0) := by
          unfold lk
          rw [if_neg (by omega)]
          exact lk_lo h4 (by omega)
        rw [e0] at this
        exact this) (by omega), ef]
    unfold f_X4_placeOf_L7 lp
    rw [ofNat_nI, if_neg (fun q => by have := (nI_leI (by omega) (by omega)).mp q; omega), chk_t ip, jn_def, cl_nI (by omega), zo.2, zo.1]
    dsimp only
    by_cases q : o.2.2 = 1
    · rw [if_pos q, if_pos (show nI o.2.2 = 1 by rw [q]; rfl)]
      by_cases e : k = 0
      · rw [if_pos e, if_pos (show nI k = 0 by rw [e]; rfl), show (16 : Int32) = nI 16 from rfl, pk_mul, Nat.mul_comm]
      · rw [if_neg e, if_neg (show ¬ nI k = 0 from fun z => e (nI_inj (b := 0) hk (by decide) z)), lt_def, chk_t ip, lt_def, max_C (by omega), emax, lt_def, nI_add, prI_m]
        obtain ⟨k', rfl⟩ : ∃ k', k = k' + 1 := ⟨k - 1, by omega⟩
        rw [prI_s]
        exact ih k' (by omega)
    · rw [if_neg q, if_neg (show ¬ nI o.2.2 = 1 from fun z => q (nI_inj (b := 1) (by omega) (by decide) z)), chk_t ip, lt_def, max_C (by omega), emax, lt_def, nI_add]
      exact ih k hk
theorem hq_L {W : HV} {x1 : Int32} {K : Int32 → Int32 → Int32 → Int32 → Option Int32} : ∀ (l : List Ob) (k f m b h : Nat) (s : Int32), (∀ i o, l[i]? = some o → Rw W (k + i) o) → W 1055 0 0 = nI (k + l.length) → k + l.length ≤ 2048 → l.length < f → f_X12_heap_L32 0 x1 W K f (nI m) (nI b) (nI h) s (nI k) = K (nI (m + cnt l)) (nI (b + 16 * gvn l)) (nI (h + 16 * hld l)) (sp (x1 - 8) m l s)
  | _, _, 0, _, _, _, _, _, _, _, hf => absurd hf (by omega)
  | [], k, f + 1, m, b, h, s, ha, hn, hk, hf => by
    unfold f_X12_heap_L32
    rw [hn, if_pos (show nI (k + ([] : List Ob).length) ≤ nI k from nI_le (by simp) (by simp at hk; omega))]
    rfl
  | o :: l, k, f + 1, m, b, h, s, ha, hn, hk, hf => by
    have hk' : k + l.length + 1 ≤ 2048 := by simp only [List.length_cons] at hk; omega
    have hf' : l.length < f := by simp only [List.length_cons] at hf; omega
    have ik : inb (nI k) 2049 := inb_nI (by omega) (by decide)
    obtain ⟨a1, a2, a3, a4⟩ := ha 0 o rfl
    rw [Nat.add_zero] at a1 a2 a3 a4
    have e1 : hld (o :: l) = (if o.2.2 = 1 then 0 else o.2.1) + hld l := rfl
    have e2 : cnt (o :: l) = (if o.2.2 = 1 then 1 else 0) + cnt l := rfl
    have e3 : gvn (o :: l) = (if o.2.2 = 1 then o.2.1 else 0) + gvn l := rfl
    have ih : ∀ m b h s, f_X12_heap_L32 0 x1 W K f (nI m) (nI b) (nI h) s (nI (k + 1)) = K (nI (m + cnt l)) (nI (b + 16 * gvn l)) (nI (h + 16 * hld l)) (sp (x1 - 8) m l s) := fun m b h s => hq_L l (k + 1) f m b h s (fun i o' hi' => by
        have := ha (i + 1) o' hi'
        rw [show k + (i + 1) = k + 1 + i by omega] at this
        exact this) (by rw [hn]; congr 1; simp only [List.length_cons]; omega) (by omega) hf'
    unfold f_X12_heap_L32
    rw [hn, if_neg (fun q => by have := (nI_leI (by simp only [List.length_cons]; omega) (by omega)).mp q; simp only [List.length_cons] at this; omega), chk_t ik, jn_def, cl_nI (by omega), a3, e1, e2, e3]
    dsimp only
    unfold sp
    by_cases q : o.2.2 = 1
    · rw [decide_eq_false (fun z => z q), if_neg (show ¬ false = true by decide), if_pos q, if_pos q, if_pos q, if_pos q, jn_def]
      have fin : ∀ s', (lt (nI m + 1) fun v39 => chk (inb (nI k) 2049) <| lt (nI b + W 7700 0 k) fun v41 => lt (nI k + 1) fun v34 => f_X12_heap_L32 0 x1 W K f v39 v41 (nI h) s' v34) = K (nI (m + (1 + cnt l))) (nI (b + 16 * (o.2.1 + gvn l))) (nI (h + 16 * (0 + hld l))) (sp (x1 - 8) (m + 1) l s') := by
        intro s'
        rw [lt_def, chk_t ik, lt_def, lt_def, nI_1, nI_1, a2, nI_add, ih, show m + 1 + cnt l = m + (1 + cnt l) by omega, show b + 16 * o.2.1 + 16 * gvn l = b + 16 * (o.2.1 + gvn l) by omega, Nat.zero_add]
      by_cases e : nI m = x1 - 8
      · rw [if_pos e, if_pos e, chk_t ik, lt_def, a1]
        exact fin _
      · rw [if_neg e, if_neg e]
        exact fin _
    · rw [decide_eq_true q, if_pos rfl, chk_t ik, lt_def, if_neg q, if_neg q, if_neg q, if_neg q, lt_def, nI_1, a2, nI_add, ih, Nat.zero_add, Nat.zero_add, show h + 16 * o.2.1 + 16 * hld l = h + 16 * (o.2.1 + hld l) by omega]
theorem heap_all : S_heap RZ := by
  intro cn kb V W hcn hz x1
  obtain ⟨Y, l, T, hT, hq⟩ := hz
  have h1 := hq.1
  have hL := h1.1
  have hkb := hL.2.1
  have hhp := hL.2.2.2.2.2.2.2.2.1
  have hH := h1.2.2.2.2.2.2.2.2.1
  obtain ⟨hs, ⟨b1, b2, b3, b4, b5⟩, hM, hS, hRv⟩ := id hH
  have h10 : W 1000 0 0 = nI (1024 * kb) := (h1.2.1 1000 (by decide) 0 0).trans hL.2.2.1
  have h54 : W 1054 0 0 = nI (16 * hp Y) := (h1.2.1 1054 (by decide) 0 0).trans hL.2.2.2.2.2.2.2.1
  have hlen := srt_len l _ hs
  have hbt : i2b (V 809 0 0) = i2b (W 1017 0 0) := h1.2.2.1.2.2.1
  unfold f_X11_heap f_X12_heap
  rw [hbt]
  by_cases hb : i2b (W 1017 0 0) = true
  · rw [if_pos hb, if_pos hb]
    have hqM : ∀ K : Int32 → Int32 → Int32 → Int32 → Option Int32, f_X12_heap_L32 0 x1 W K FU 0 0 0 (-1) 0 = K (nI (cnt l)) (nI (16 * gvn l)) (nI (16 * hld l)) (sp (x1 - 8) 0 l (-1)) := by
      intro K
      have := hq_L (W := W) (x1 := x1) (K := K) l 0 FU 0 0 0 (-1) (fun i o hi => by rw [Nat.zero_add]; exact hM.2 i o hi) (by rw [Nat.zero_add]; exact hM.1) (by omega) (FU_gt (by omega))
      rw [Nat.zero_add, Nat.zero_add, Nat.zero_add] at this
      exact this
    have m16 : ∀ n, nI n * 16 = nI (16 * n) := fun n => by rw [show (16 : Int32) = nI 16 from rfl, pk_mul, Nat.mul_comm]
    unfold f_X4_part
    by_cases x0 : x1 < 0
    · rw [if_pos x0]
      have ne : ∀ n : Nat, n < 2147483648 → ¬ x1 = nI n := fun n hn q => nI_pos hn (q ▸ x0)
      rw [if_neg (show ¬ x1 = 0 from ne 0 (by decide)), if_neg (show ¬ x1 = 1 from ne 1 (by decide)), if_neg (show ¬ x1 = 2 from ne 2 (by decide)), if_neg (show ¬ x1 = 3 from ne 3 (by decide)), if_neg (show ¬ x1 = 4 from ne 4 (by decide)), if_neg (show ¬ x1 = 5 from ne 5 (by decide)), if_neg (show ¬ x1 = 6 from ne 6 (by decide)), if_pos (Int32.lt_trans x0 (by decide)), bnd_some]
      exact ⟨-1, rfl, rfl⟩
    · rw [if_neg x0]
      by_cases x7 : x1 = 7
      · rw [if_pos x7, x7]
        exact ⟨-1, rfl, rfl⟩
      · rw [if_neg x7, jn_def, hqM]
        by_cases e0 : x1 = 0
        · rw [if_pos e0, if_pos e0, bnd_some, b1, m16, h54]
          exact ⟨_, rfl, rfl⟩
        rw [if_neg e0, if_neg e0]
        by_cases e1 : x1 = 1
        · rw [if_pos e1, if_pos e1, bnd_some, b3]
          exact ⟨_, rfl, rfl⟩
        rw [if_neg e1, if_neg e1]
        by_cases e2 : x1 = 2
        · rw [if_pos e2, if_pos e2, bnd_some, b4, m16]
          exact ⟨_, rfl, rfl⟩
        rw [if_neg e2, if_neg e2]
        by_cases e3 : x1 = 3
        · rw [if_pos e3, if_pos e3, bnd_some, b5, m16]
          exact ⟨_, rfl, rfl⟩
        rw [if_neg e3, if_neg e3]
        by_cases e4 : x1 = 4
        · rw [if_pos e4, if_pos e4, lt_def, bnd_some, fb_all hH hkb hhp h10 h54, bnd_some]
          exact ⟨_, rfl, rfl⟩
        rw [if_neg e4, if_neg e4]
        by_cases e5 : x1 = 5
        · rw [if_pos e5, if_pos e5, bnd_some, hS.2.1]
          exact ⟨_, rfl, rfl⟩
        rw [if_neg e5, if_neg e5]
        by_cases e6 : x1 = 6
        · rw [if_pos e6, if_pos e6, bnd_some, hS.1]
          exact ⟨_, rfl, rfl⟩
        rw [if_neg e6, if_neg e6]
        obtain ⟨n, hn⟩ := nI_of x0
        obtain ⟨hn31, rfl⟩ := hn
        have n8 : 8 ≤ n := by
          refine Nat.not_lt.mp fun z => ?_
          rcases (show n = 0 ∨ n = 1 ∨ n = 2 ∨ n = 3 ∨ n = 4 ∨ n = 5 ∨ n = 6 ∨ n = 7 by omega) with y | y | y | y | y | y | y | y
          · exact e0 (by rw [y]; rfl)
          · exact e1 (by rw [y]; rfl)
          · exact e2 (by rw [y]; rfl)
          · exact e3 (by rw [y]; rfl)
          · exact e4 (by rw [y]; rfl)
          · exact e5 (by rw [y]; rfl)
          · exact e6 (by rw [y]; rfl)
          · exact x7 (by rw [y]; rfl)
        have ed : nI n - 8 = nI (n - 8) := nI_sub (b := 8) n8
        rw [if_neg (show ¬ nI n < 8 from nI_nlt (a := n) (b := 8) n8 hn31), ed, sp_lp (by omega) l 0 (Nat.zero_le _) (by omega)]
        unfold f_X4_placeOf
        rw [lt_def, jn_def, b1, po_L hkb l (hp Y) FU (n - 8) (by omega) hs (fun g _ hg => b2 g hg) (by have := FU_gt (k := 5000) (by decide); omega), bnd_some, bnd_some]
        exact ⟨_, rfl, rfl⟩
  · rw [if_neg hb, if_neg hb]
    exact ⟨-1, rfl, rfl⟩
