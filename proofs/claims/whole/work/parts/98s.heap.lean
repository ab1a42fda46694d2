/-! the heap's list -/
def fi (w hi : Nat) : Nat → List Ob → Option Nat
  | p, [] => if p + w ≤ hi then some p else none
  | p, o :: l => if p + w ≤ o.1 then some p else fi w hi (o.1 + o.2.1) l
def ft (w : Nat) : Nat → List Ob → Nat × Nat
  | p, [] => (p, 0)
  | p, o :: l => if p + w ≤ o.1 then (p, 0) else ((ft w (o.1 + o.2.1) l).1, (ft w (o.1 + o.2.1) l).2 + 1)
theorem fi_ft {w hi : Nat} (hw : 0 < w) : ∀ (l : List Ob) (p : Nat), fi w hi p l = if (ft w p l).2 = l.length ∧ ¬ (ft w p l).1 + w ≤ hi then none else some (ft w p l).1
  | [], p => by
    unfold fi ft
    by_cases q : p + w ≤ hi
    · rw [if_pos q, if_neg (fun z => z.2 q)]
    · rw [if_neg q, if_pos ⟨rfl, q⟩]
  | o :: l, p => by
    unfold fi ft
    by_cases q : p + w ≤ o.1
    · rw [if_pos q, if_pos q, if_neg (fun z => by have := z.1; simp at this)]
    · rw [if_neg q, if_neg q, fi_ft hw l]
      simp
theorem ft_le {w : Nat} : ∀ (l : List Ob) (p : Nat), (ft w p l).2 ≤ l.length
  | [], p => Nat.le_refl _
  | o :: l, p => by
    unfold ft
    by_cases q : p + w ≤ o.1
    · rw [if_pos q]; exact Nat.zero_le _
    · rw [if_neg q]
      have := ft_le (w := w) l (o.1 + o.2.1)
      simp
      exact this
/-- the list with the new object -/
def ins (w : Nat) (p : Nat) (l : List Ob) : List Ob := l.take (ft w p l).2 ++ ((ft w p l).1, w, 1) :: l.drop (ft w p l).2
theorem ins_nil (w p : Nat) : ins w p [] = [(p, w, 1)] := rfl
theorem ins_here {w p : Nat} {o : Ob} {l : List Ob} (h : p + w ≤ o.1) : ins w p (o :: l) = (p, w, 1) :: o :: l := by
  unfold ins ft
  rw [if_pos h]
  rfl
theorem ins_next {w p : Nat} {o : Ob} {l : List Ob} (h : ¬ p + w ≤ o.1) : ins w p (o :: l) = o :: ins w (o.1 + o.2.1) l := by
  unfold ins
  rw [show ft w p (o :: l) = ((ft w (o.1 + o.2.1) l).1, (ft w (o.1 + o.2.1) l).2 + 1) by rw [ft, if_neg h]]
  rfl
theorem srt_ge {hi : Nat} {o : Ob} {l : List Ob} {lo : Nat} (h : srt hi lo l) (ho : o ∈ l) : lo ≤ o.1 := (srt_mem h ho).1
theorem ins_srt {w hi : Nat} (hw : 0 < w) : ∀ (l : List Ob) (p : Nat), srt hi p l → ¬ fi w hi p l = none → srt hi p (ins w p l)
  | [], p, h, hf => by
    rw [ins_nil]
    unfold fi at hf
    by_cases q : p + w ≤ hi
    · exact ⟨Nat.le_refl _, hw, Or.inl rfl, q⟩
    · rw [if_neg q] at hf; exact absurd rfl hf
  | o :: l, p, h, hf => by
    by_cases q : p + w ≤ o.1
    · rw [ins_here q]
      exact ⟨Nat.le_refl _, hw, Or.inl rfl, q, h.2.1, h.2.2.1, h.2.2.2⟩
    · rw [ins_next q]
      unfold fi at hf
      rw [if_neg q] at hf
      exact ⟨h.1, h.2.1, h.2.2.1, ins_srt hw l _ h.2.2.2 hf⟩
theorem ft_ge {w hi : Nat} : ∀ (l : List Ob) (p : Nat), srt hi p l → p ≤ (ft w p l).1
  | [], p, _ => Nat.le_refl _
  | o :: l, p, h => by
    unfold ft
    by_cases q : p + w ≤ o.1
    · rw [if_pos q]; exact Nat.le_refl _
    · rw [if_neg q]
      have := ft_ge (w := w) l _ h.2.2.2
      have := h.1
      have := h.2.1
      simp
      omega
theorem ft_hi {w hi : Nat} (hw : 0 < w) : ∀ (l : List Ob) (p : Nat), srt hi p l → ¬ fi w hi p l = none → (ft w p l).1 + w ≤ hi
  | [], p, h, hf => by
    unfold fi at hf
    by_cases q : p + w ≤ hi
    · exact q
    · rw [if_neg q] at hf; exact absurd rfl hf
  | o :: l, p, h, hf => by
    unfold ft
    by_cases q : p + w ≤ o.1
    · rw [if_pos q]
      have := srt_le h.2.2.2
      have := h.2.1
      simp
      omega
    · rw [if_neg q]
      unfold fi at hf
      rw [if_neg q] at hf
      exact ft_hi hw l _ h.2.2.2 hf
theorem lk_no {l : List Ob} {g : Nat} (h : ∀ o, o ∈ l → o.1 ≠ g) : lk l g = (0, 0) := by
  induction l with
  | nil => rfl
  | cons o l ih =>
    unfold lk
    rw [if_neg (fun q => h o (List.mem_cons_self ..) q.symm)]
    exact ih (fun o' ho' => h o' (List.mem_cons_of_mem _ ho'))
theorem lk_lo {hi lo : Nat} {l : List Ob} {g : Nat} (h : srt hi lo l) (hg : g < lo) : lk l g = (0, 0) := lk_no (fun o ho q => by have := srt_ge h ho; omega)
theorem lk_mem {hi : Nat} {o : Ob} : ∀ {l : List Ob} {lo : Nat}, srt hi lo l → o ∈ l → lk l o.1 = o.2
  | [], _, _, h => by cases h
  | a :: l, lo, hs, h => by
    unfold lk
    rcases List.mem_cons.mp h with rfl | h
    · rw [if_pos rfl]
    · have := srt_ge hs.2.2.2 h
      have := hs.2.1
      rw [if_neg (by omega)]
      exact lk_mem hs.2.2.2 h
theorem lk_ins {w hi : Nat} : ∀ (l : List Ob) (p : Nat), srt hi p l → ∀ g, lk (ins w p l) g = if g = (ft w p l).1 then (w, 1) else lk l g
  | [], p, h, g => by
    rw [ins_nil]
    unfold lk ft
    rfl
  | o :: l, p, h, g => by
    by_cases q : p + w ≤ o.1
    · rw [ins_here q]
      unfold ft
      rw [if_pos q]
      rfl
    · rw [ins_next q, show ft w p (o :: l) = ((ft w (o.1 + o.2.1) l).1, (ft w (o.1 + o.2.1) l).2 + 1) by rw [ft, if_neg q]]
      unfold lk
      have := ft_ge (w := w) l _ h.2.2.2
      have := h.2.1
      by_cases e : g = o.1
      · rw [if_pos e, if_pos e, if_neg (by simp; omega)]
      · rw [if_neg e, if_neg e, lk_ins l _ h.2.2.2 g]
theorem cnt_ins {w : Nat} : ∀ (l : List Ob) (p : Nat), cnt (ins w p l) = cnt l + 1 ∧ gvn (ins w p l) = gvn l + w ∧ hld (ins w p l) = hld l ∧ (∀ g, rvk (ins w p l) g = rvk l g)
  | [], p => by
    rw [ins_nil]
    refine ⟨rfl, ?_, rfl, fun g => ?_⟩
    · unfold gvn; simp; rfl
    · unfold rvk; simp
  | o :: l, p => by
    by_cases q : p + w ≤ o.1
    · rw [ins_here q]
      refine ⟨?_, ?_, ?_, fun g => ?_⟩
      · show (if (1 : Nat) = 1 then 1 else 0) + cnt (o :: l) = cnt (o :: l) + 1
        rw [if_pos rfl]; omega
      · show (if (1 : Nat) = 1 then w else 0) + gvn (o :: l) = gvn (o :: l) + w
        rw [if_pos rfl]; omega
      · conv => lhs; unfold hld
        simp
      · unfold rvk; simp
    · rw [ins_next q]
      obtain ⟨a1, a2, a3, a4⟩ := cnt_ins (w := w) l (o.1 + o.2.1)
      refine ⟨?_, ?_, ?_, fun g => ?_⟩
      · unfold cnt; rw [a1]; omega
      · unfold gvn; rw [a2]; omega
      · unfold hld; rw [a3]
      · have := a4 g
        unfold rvk at this ⊢
        rw [List.any_cons, List.any_cons, this]
theorem ins_len (w p : Nat) (l : List Ob) : (ins w p l).length = l.length + 1 := by
  have := ft_le (w := w) l p
  unfold ins
  rw [List.length_append, List.length_cons, List.length_take, List.length_drop]
  omega
theorem ins_get {w p : Nat} {l : List Ob} {j : Nat} : (ins w p l)[j]? = if j < (ft w p l).2 then l[j]? else if j = (ft w p l).2 then some ((ft w p l).1, w, 1) else l[j - 1]? := by
  have hle := ft_le (w := w) l p
  unfold ins
  by_cases q : j < (ft w p l).2
  · rw [if_pos q, List.getElem?_append_left (by rw [List.length_take]; omega), List.getElem?_take, if_pos q]
  · rw [if_neg q, List.getElem?_append_right (by rw [List.length_take]; omega), List.length_take]
    by_cases e : j = (ft w p l).2
    · rw [if_pos e, show j - min (ft w p l).2 l.length = 0 by omega]
      rfl
    · rw [if_neg e, show j - min (ft w p l).2 l.length = (j - 1 - (ft w p l).2) + 1 by omega, List.getElem?_cons_succ, List.getElem?_drop]
      congr 1
      omega
theorem ins_mem {w p : Nat} {l : List Ob} {o : Ob} (h : o ∈ l) : o ∈ ins w p l := by
  unfold ins
  rw [← List.take_append_drop (ft w p l).2 l, List.mem_append] at h
  rw [List.mem_append, List.mem_cons]
  rcases h with h | h
  · exact Or.inl h
  · exact Or.inr (Or.inr h)
theorem ins_new {w p : Nat} {l : List Ob} : ((ft w p l).1, w, 1) ∈ ins w p l := by
  unfold ins
  rw [List.mem_append, List.mem_cons]
  exact Or.inr (Or.inl rfl)
/-! a gap in the class's row -/
theorem rm_gap {kb w e : Nat} {V : HV} {K : Int32 → Option Int32} (hkb : kb ≤ 32) (hw31 : w < 2147483648) (he : e ≤ 64 * kb) : ∀ (r j p f : Nat), p + j + r = e → (∀ g, p ≤ g → g < e → V 2500 0 g = 0) → j < w → r < f → f_X4_room_L7 (nI w) kb V K f (nI j) (nI (p + j)) = if p + w ≤ e then K (nI (p + w - 1)) else f_X4_room_L7 (nI w) kb V K (f - r) (nI (e - p)) (nI e)
  | 0, j, p, f, hr, hz, hj, hf => by
    rw [if_neg (by omega), show f - 0 = f from rfl, show e - p = j by omega, show p + j = e by omega]
  | r + 1, j, p, 0, hr, hz, hj, hf => absurd hf (by omega)
  | r + 1, j, p, f + 1, hr, hz, hj, hf => by
    conv => lhs; unfold f_X4_room_L7
    have i1 : inb (nI (p + j)) (64 * kb) := inb_nI (by omega) (by omega)
    rw [ofNat_nI, if_neg (fun q => by have := (nI_leI (by omega) (by omega)).mp q; omega), chk_t i1, cl_nI (by omega), hz (p + j) (by omega) (by omega), if_pos (show (0 : Int32) ≤ 0 by decide), lt_def, nI_1]
    by_cases ew : j + 1 = w
    · rw [if_pos (by rw [ew]), if_pos (by omega), show p + w - 1 = p + j by omega]
    · rw [if_neg (fun q => ew (nI_inj (by omega) hw31 q)), chk_t i1, jn_def, if_pos (show (0 : Int32) ≤ 0 by decide)]
      dsimp only
      rw [lt_def, nI_1]
      have := rm_gap (w := w) (e := e) (V := V) (K := K) hkb hw31 he r (j + 1) p f (by omega) hz (by omega) (by omega)
      rw [show p + j + 1 = p + (j + 1) from rfl, this, show f + 1 - (r + 1) = f - r by omega]
theorem rm_L {kb w : Nat} {V : HV} {K : Int32 → Option Int32} (hkb : kb ≤ 32) (hw0 : 0 < w) (hw31 : w < 2147483648) : ∀ (l : List Ob) (p f : Nat), srt (64 * kb) p l → (∀ g, p ≤ g → g < 64 * kb → V 2500 0 g = nI (lk l g).1) → 64 * kb - p + 1 < f → f_X4_room_L7 (nI w) kb V K f (nI 0) (nI p) = match fi w (64 * kb) p l with | some q => K (nI (q + w - 1)) | none => some (-1)
  | [], p, f, hs, hz, hf => by
    have hle : p ≤ 64 * kb := hs
    have g := rm_gap (w := w) (e := 64 * kb) (V := V) (K := K) hkb hw31 (Nat.le_refl _) (64 * kb - p) 0 p f (by omega) (fun g h1 h2 => hz g h1 h2) hw0 (by omega)
    rw [Nat.add_zero] at g
    rw [g]
    unfold fi
    by_cases q : p + w ≤ 64 * kb
    · rw [if_pos q, if_pos q]
    · rw [if_neg q, if_neg q]
      obtain ⟨f', e⟩ : ∃ f', f - (64 * kb - p) = f' + 1 := ⟨f - (64 * kb - p) - 1, by omega⟩
      rw [e]
      unfold f_X4_room_L7
      rw [ofNat_nI, if_pos (nI_le (Nat.le_refl _) (by omega))]
  | o :: l, p, f, hs, hz, hf => by
    obtain ⟨h1, h2, h3, h4⟩ := hs
    have hle := srt_le h4
    have g := rm_gap (w := w) (e := o.1) (V := V) (K := K) hkb hw31 (by omega) (o.1 - p) 0 p f (by omega) (fun g h1 h2' => by
      rw [hz g h1 (by omega)]
      have : lk (o :: l) g = (0, 0) := by
        unfold lk
        rw [if_neg (by omega)]
        exact lk_lo h4 (by omega)
      rw [this]; rfl) hw0 (by omega)
    rw [Nat.add_zero] at g
    rw [g]
    unfold fi
    by_cases q : p + w ≤ o.1
    · rw [if_pos q, if_pos q]
    · rw [if_neg q, if_neg q]
      obtain ⟨f', e⟩ : ∃ f', f - (o.1 - p) = f' + 1 := ⟨f - (o.1 - p) - 1, by omega⟩
      rw [e]
      have zo : V 2500 0 o.1 = nI o.2.1 := by
        rw [hz o.1 h1 (by omega)]
        unfold lk
        rw [if_pos rfl]
      have ip : inb (nI o.1) (64 * kb) := inb_nI (by omega) (by omega)
      conv => lhs; unfold f_X4_room_L7
      rw [ofNat_nI, if_neg (fun q => by have := (nI_leI (by omega) (by omega)).mp q; omega), chk_t ip, cl_nI (by omega), zo, if_neg (nI_nle h2 (by omega)), lt_def, if_neg (show ¬ (0 : Int32) = nI w from fun q => nI_ne0 hw0 hw31 q.symm), chk_t ip, jn_def, if_neg (nI_nle h2 (by omega)), chk_t ip]
      dsimp only
      rw [lt_def, nI_add]
      exact rm_L hkb hw0 hw31 l (o.1 + o.2.1) f' h4 (fun g h1' h2' => by
        rw [hz g (by omega) h2']
        conv => lhs; unfold lk
        rw [if_neg (by omega)]) (by omega)
theorem room_C {kb w h : Nat} {l : List Ob} {V : HV} (hkb : kb ≤ 32) (hw0 : 0 < w) (hw31 : w < 2147483648) (hs : srt (64 * kb) h l) (h2 : V 302 0 0 = nI h) (hz : ∀ g, g < 64 * kb → V 2500 0 g = nI (lk l g).1) : f_X4_room kb 0 (nI w) V = some (match fi w (64 * kb) h l with | some q => nI q | none => -1) := by
  unfold f_X4_room
  rw [lt_def, h2, jn_def]
  have := rm_L (K := fun v4 => some ((v4 - nI w) + 1)) hkb hw0 hw31 l h FU hs (fun g _ hg => hz g hg) (FU_gt (by omega))
  refine Eq.trans this ?_
  cases hf : fi w (64 * kb) h l with
  | none => rfl
  | some q =>
    show some ((nI (q + w - 1) - nI w) + 1) = some (nI q)
    have e : nI (q + w - 1) - nI w + 1 = nI q := by
      have e1 : nI (q + w - 1) + 1 = nI (q + w) := by rw [nI_1, show q + w - 1 + 1 = q + w by omega]
      have e2 : nI q + nI w = nI (q + w) := nI_add q w
      rw [Int32.sub_eq_add_neg, Int32.add_assoc, Int32.add_comm (-nI w) 1, ← Int32.add_assoc, e1, ← e2, ← Int32.sub_eq_add_neg, Int32.add_sub_cancel]
    rw [e]
/-! the reference looks for room -/
theorem tk_L {w : Nat} {W : HV} {K : Int32 → Int32 → Option (Int32 × HV)} {hi : Nat} (hhi : hi ≤ 2048) (hw : w ≤ 2048) : ∀ (l : List Ob) (k p f : Nat), srt hi p l → (∀ i o, l[i]? = some o → W 7600 0 (k + i) = nI (16 * o.1) ∧ W 7700 0 (k + i) = nI (16 * o.2.1)) → W 1055 0 0 = nI (k + l.length) → k + l.length ≤ 2048 → l.length < f → f_X12_takes_L7 0 (nI (16 * w)) W K f (nI (16 * p)) (nI k) = K (nI (16 * (ft w p l).1)) (nI (k + (ft w p l).2))
  | _, _, _, 0, _, _, _, _, hf => absurd hf (by omega)
  | [], k, p, f + 1, hs, ha, hn, hk, hf => by
    unfold f_X12_takes_L7
    rw [hn, if_pos (show nI (k + ([] : List Ob).length) ≤ nI k from nI_le (by simp) (by simp at hk; omega))]
    rfl
  | o :: l, k, p, f + 1, hs, ha, hn, hk, hf => by
    obtain ⟨h1, h2, h3, h4⟩ := hs
    have hle := srt_le h4
    have hk' : k + l.length + 1 ≤ 2048 := by simp at hk; omega
    have hf' : l.length < f := by simp at hf; omega
    have ik : inb (nI k) 2049 := inb_nI (by omega) (by decide)
    obtain ⟨a1, a2⟩ := ha 0 o rfl
    rw [Nat.add_zero] at a1 a2
    have es : nI (16 * o.1) - nI (16 * p) = nI (16 * o.1 - 16 * p) := by
      have e2 : nI (16 * o.1 - 16 * p) + nI (16 * p) = nI (16 * o.1) := by rw [nI_add]; congr 1; omega
      rw [← e2, Int32.add_sub_cancel]
    unfold f_X12_takes_L7
    rw [hn, if_neg (fun q => by have := (nI_leI (by simp only [List.length_cons]; omega) (by omega)).mp q; simp only [List.length_cons] at this; omega), chk_t ik, cl_nI (by omega), a1, a2, es]
    unfold ft
    by_cases q : p + w ≤ o.1
    · rw [if_pos (nI_le (by omega) (by omega)), if_pos q]
      rfl
    · rw [if_neg (fun z => by have := (nI_leI (by omega) (by omega)).mp z; omega), if_neg q, chk_t ik, chk_t ik, lt_def, lt_def, nI_add, nI_1, show 16 * o.1 + 16 * o.2.1 = 16 * (o.1 + o.2.1) by omega, tk_L hhi hw l (k + 1) (o.1 + o.2.1) f h4 (fun i o' hi' => by
        have := ha (i + 1) o' hi'
        rw [show k + (i + 1) = k + 1 + i by omega] at this
        exact this) (by rw [hn]; congr 1; simp; omega) (by omega) hf']
      show K _ (nI (k + 1 + _)) = K _ (nI (k + (_ + 1)))
      rw [show k + 1 + (ft w (o.1 + o.2.1) l).2 = k + ((ft w (o.1 + o.2.1) l).2 + 1) by omega]
/-- rows from k on move one place up -/
theorem sf_L {k : Nat} : ∀ (r f : Nat) (W : HV), k + r ≤ 2048 → r < f → ∃ W', (∀ K : HV → Option (Int32 × HV), f_X12_takes_L73 (nI k) K f (nI (k + r)) W = K W') ∧ agr [7600, 7700, 7800, 7900] W W' ∧ (∀ j, W' 7600 0 j = (if k < j ∧ j ≤ k + r then W 7600 0 (j - 1) else W 7600 0 j) ∧ W' 7700 0 j = (if k < j ∧ j ≤ k + r then W 7700 0 (j - 1) else W 7700 0 j) ∧ i2b (W' 7800 0 j) = (if k < j ∧ j ≤ k + r then i2b (W 7800 0 (j - 1)) else i2b (W 7800 0 j)) ∧ i2b (W' 7900 0 j) = (if k < j ∧ j ≤ k + r then i2b (W 7900 0 (j - 1)) else i2b (W 7900 0 j)))
  | _, 0, _, _, hf => absurd hf (by omega)
  | 0, f + 1, W, hk, _ => by
    refine ⟨W, fun K => ?_, (agr_rfl W).sub (by decide), fun j => ?_⟩
    · unfold f_X12_takes_L73
      rw [if_pos (nI_le (by omega) (by omega))]
    · rw [if_neg (by omega), if_neg (by omega), if_neg (by omega), if_neg (by omega)]
      exact ⟨rfl, rfl, rfl, rfl⟩
  | r + 1, f + 1, W, hk, hf => by
    have i1 : inb (nI (k + r)) 2049 := inb_nI (by omega) (by decide)
    have i2 : inb (nI (k + (r + 1))) 2049 := inb_nI (by omega) (by decide)
    have ep : nI (k + (r + 1)) - 1 = nI (k + r) := nI_pred (k + r)
    have em : nI (k + (r + 1)) + (-1) = nI (k + r) := by rw [← Int32.sub_eq_add_neg]; exact ep
    generalize hW1 : sv (sv (sv (sv W 7600 0 (k + (r + 1)) (W 7600 0 (k + r))) 7700 0 (k + (r + 1)) (W 7700 0 (k + r))) 7800 0 (k + (r + 1)) (b2i (i2b (W 7800 0 (k + r))))) 7900 0 (k + (r + 1)) (b2i (i2b (W 7900 0 (k + r)))) = W1
    obtain ⟨W', e1, e2, e3⟩ := sf_L (k := k) r f W1 (by omega) (by omega)
    have a1 : agr [7600, 7700, 7800, 7900] W W1 := by rw [← hW1]; exact (((agr_sv _ _ _ _ _).app (agr_sv _ _ _ _ _)).app (agr_sv _ _ _ _ _)).app (agr_sv _ _ _ _ _)
    have b1 : ∀ j, W1 7600 0 j = if j = k + (r + 1) then W 7600 0 (k + r) else W 7600 0 j := fun j => by
      rw [← hW1, sv_col (by decide), sv_col (by decide), sv_col (by decide)]
      by_cases e : j = k + (r + 1)
      · rw [if_pos e, e, sv_at]
      · rw [if_neg e, sv_ne (fun q => e q.2.2)]
    have b2 : ∀ j, W1 7700 0 j = if j = k + (r + 1) then W 7700 0 (k + r) else W 7700 0 j := fun j => by
      rw [← hW1, sv_col (by decide), sv_col (by decide)]
      by_cases e : j = k + (r + 1)
      · rw [if_pos e, e, sv_at]
      · rw [if_neg e, sv_ne (fun q => e q.2.2), sv_col (by decide)]
    have b3 : ∀ j, i2b (W1 7800 0 j) = if j = k + (r + 1) then i2b (W 7800 0 (k + r)) else i2b (W 7800 0 j) := fun j => by
      rw [← hW1, sv_col (by decide)]
      by_cases e : j = k + (r + 1)
      · rw [if_pos e, e, sv_at, i2b_b2i]
      · rw [if_neg e, sv_ne (fun q => e q.2.2), sv_col (by decide), sv_col (by decide)]
    have b4 : ∀ j, i2b (W1 7900 0 j) = if j = k + (r + 1) then i2b (W 7900 0 (k + r)) else i2b (W 7900 0 j) := fun j => by
      rw [← hW1]
      by_cases e : j = k + (r + 1)
      · rw [if_pos e, e, sv_at, i2b_b2i]
      · rw [if_neg e, sv_ne (fun q => e q.2.2), sv_col (by decide), sv_col (by decide), sv_col (by decide)]
    refine ⟨W', fun K => ?_, a1.trans e2, fun j => ?_⟩
    · unfold f_X12_takes_L73
      rw [if_neg (fun q => by have := (nI_leI (by omega) (by omega)).mp q; omega), ep, chk_t i1, chk_t i2, lt_def, chk_t i1, chk_t i2, lt_def, chk_t i1, chk_t i2, lt_def, chk_t i1, chk_t i2, lt_def, lt_def, cl_nI (show k + r < 2147483648 by omega), cl_nI (show k + (r + 1) < 2147483648 by omega), em, sv_col (show ¬ 7700 = 7600 by decide), sv_col (show ¬ 7800 = 7700 by decide), sv_col (show ¬ 7800 = 7600 by decide), sv_col (show ¬ 7900 = 7800 by decide), sv_col (show ¬ 7900 = 7700 by decide), sv_col (show ¬ 7900 = 7600 by decide), hW1]
      exact e1 K
    · obtain ⟨z1, z2, z3, z4⟩ := e3 j
      rw [z1, z2, z3, z4, b1, b2, b3, b4, b1, b2, b3, b4]
      by_cases q1 : k < j ∧ j ≤ k + r
      · rw [if_pos q1, if_pos q1, if_pos q1, if_pos q1]
        have n1 : ¬ j - 1 = k + (r + 1) := by omega
        have n2 : k < j ∧ j ≤ k + (r + 1) := by omega
        rw [if_neg n1, if_neg n1, if_neg n1, if_neg n1, if_pos n2, if_pos n2, if_pos n2, if_pos n2]
        exact ⟨rfl, rfl, rfl, rfl⟩
      · rw [if_neg q1, if_neg q1, if_neg q1, if_neg q1]
        by_cases q2 : j = k + (r + 1)
        · have n2 : k < j ∧ j ≤ k + (r + 1) := by omega
          rw [if_pos q2, if_pos q2, if_pos q2, if_pos q2, if_pos n2, if_pos n2, if_pos n2, if_pos n2, show j - 1 = k + r by omega]
          exact ⟨rfl, rfl, rfl, rfl⟩
        · have n2 : ¬ (k < j ∧ j ≤ k + (r + 1)) := by omega
          rw [if_neg q2, if_neg q2, if_neg q2, if_neg q2, if_neg n2, if_neg n2, if_neg n2, if_neg n2]
          exact ⟨rfl, rfl, rfl, rfl⟩
