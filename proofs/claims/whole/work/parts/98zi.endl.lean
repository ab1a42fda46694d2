/-! a sweep ends: swept objects go -/
def swb (l : List Ob) (g : Nat) : Bool := l.any fun o => decide (o.2.2 = 3 ∧ o.1 ≤ g ∧ g < o.1 + o.2.1)
def swn : List Ob → Nat
  | [] => 0
  | o :: l => (if o.2.2 = 3 then o.2.1 else 0) + swn l
theorem sw_c3 {o : Ob} {l : List Ob} (h : o.2.2 = 3) : sw (o :: l) = sw l := by
  unfold sw
  rw [List.filter_cons, if_neg (fun z => (of_decide_eq_true z : o.2.2 ≠ 3) h)]
theorem sw_cn {o : Ob} {l : List Ob} (h : ¬ o.2.2 = 3) : sw (o :: l) = o :: sw l := by
  unfold sw
  rw [List.filter_cons, if_pos (decide_eq_true h)]
theorem srt_lo {hi : Nat} : ∀ {l : List Ob} {lo lo' : Nat}, srt hi lo l → lo' ≤ lo → srt hi lo' l
  | [], _, _, h, q => Nat.le_trans q h
  | _ :: _, _, _, h, q => ⟨Nat.le_trans q h.1, h.2⟩
theorem srt_sw {hi : Nat} : ∀ (l : List Ob) (lo : Nat), srt hi lo l → srt hi lo (sw l)
  | [], _, h => h
  | o :: l, lo, h => by
    have ih := srt_sw l _ h.2.2.2
    by_cases q : o.2.2 = 3
    · rw [sw_c3 q]
      exact srt_lo ih (by have := h.1; omega)
    · rw [sw_cn q]
      exact ⟨h.1, h.2.1, h.2.2.1, ih⟩
theorem swn_le : ∀ (l : List Ob), hld (sw l) + swn l = hld l ∧ cnt (sw l) = cnt l ∧ gvn (sw l) = gvn l
  | [] => ⟨rfl, rfl, rfl⟩
  | o :: l => by
    obtain ⟨i1, i2, i3⟩ := swn_le l
    have e1 : hld (o :: l) = (if o.2.2 = 1 then 0 else o.2.1) + hld l := rfl
    have e2 : cnt (o :: l) = (if o.2.2 = 1 then 1 else 0) + cnt l := rfl
    have e3 : gvn (o :: l) = (if o.2.2 = 1 then o.2.1 else 0) + gvn l := rfl
    have e4 : swn (o :: l) = (if o.2.2 = 3 then o.2.1 else 0) + swn l := rfl
    by_cases q : o.2.2 = 3
    · rw [sw_c3 q, e1, e2, e3, e4, if_pos q, if_neg (by omega), if_neg (by omega), if_neg (by omega)]
      omega
    · have f1 : hld (o :: sw l) = (if o.2.2 = 1 then 0 else o.2.1) + hld (sw l) := rfl
      have f2 : cnt (o :: sw l) = (if o.2.2 = 1 then 1 else 0) + cnt (sw l) := rfl
      have f3 : gvn (o :: sw l) = (if o.2.2 = 1 then o.2.1 else 0) + gvn (sw l) := rfl
      rw [sw_cn q, e1, e2, e3, e4, f1, f2, f3, if_neg q, i2, i3]
      refine ⟨?_, rfl, rfl⟩
      omega
theorem lv_sw (l : List Ob) : lv (sw l) = lv l := by
  unfold lv sw
  rw [List.filter_filter]
  apply List.filter_congr
  intro o _
  by_cases q : o.2.2 = 1
  · rw [decide_eq_true q, decide_eq_true (show o.2.2 ≠ 3 by omega)]; rfl
  · rw [decide_eq_false q]; rfl
theorem rvk_lo {hi lo g : Nat} {l : List Ob} (h : srt hi lo l) (hg : g < lo) : rvk l g = false := by
  unfold rvk
  rw [List.any_eq_false]
  intro o ho z
  have z' := of_decide_eq_true z
  have := srt_ge h ho
  omega
theorem swb_lo {hi lo g : Nat} {l : List Ob} (h : srt hi lo l) (hg : g < lo) : swb l g = false := by
  unfold swb
  rw [List.any_eq_false]
  intro o ho z
  have z' := of_decide_eq_true z
  have := srt_ge h ho
  omega
theorem rvk_c (o : Ob) (l : List Ob) (g : Nat) : rvk (o :: l) g = (decide (o.2.2 ≠ 1 ∧ o.1 ≤ g ∧ g < o.1 + o.2.1) || rvk l g) := by
  unfold rvk; rw [List.any_cons]
theorem swb_c (o : Ob) (l : List Ob) (g : Nat) : swb (o :: l) g = (decide (o.2.2 = 3 ∧ o.1 ≤ g ∧ g < o.1 + o.2.1) || swb l g) := by
  unfold swb; rw [List.any_cons]
theorem rvk_sw {hi : Nat} (g : Nat) : ∀ (l : List Ob) (lo : Nat), srt hi lo l → rvk (sw l) g = if swb l g = true then false else rvk l g
  | [], _, _ => by
    rw [if_neg (show ¬ swb [] g = true by unfold swb; simp)]
    rfl
  | o :: l, lo, h => by
    have ih := rvk_sw g l _ h.2.2.2
    by_cases z : o.1 ≤ g ∧ g < o.1 + o.2.1
    · have r0 := rvk_lo h.2.2.2 z.2
      have s0 := swb_lo h.2.2.2 z.2
      have r1 := rvk_lo (srt_sw l _ h.2.2.2) z.2
      by_cases q : o.2.2 = 3
      · rw [sw_c3 q, r1, swb_c, decide_eq_true (show o.2.2 = 3 ∧ o.1 ≤ g ∧ g < o.1 + o.2.1 from ⟨q, z⟩), Bool.true_or, if_pos rfl]
      · rw [sw_cn q, rvk_c, r1, swb_c, decide_eq_false (show ¬ (o.2.2 = 3 ∧ o.1 ≤ g ∧ g < o.1 + o.2.1) from fun y => q y.1), s0, Bool.false_or, if_neg (show ¬ false = true by decide), rvk_c, r0]
    · have e1 : rvk (o :: l) g = rvk l g := by rw [rvk_c, decide_eq_false (fun y => z y.2), Bool.false_or]
      have e2 : swb (o :: l) g = swb l g := by rw [swb_c, decide_eq_false (fun y => z y.2), Bool.false_or]
      rw [e1, e2, ← ih]
      by_cases q : o.2.2 = 3
      · rw [sw_c3 q]
      · rw [sw_cn q, rvk_c, decide_eq_false (fun y => z y.2), Bool.false_or]
theorem es_gap {kb e : Nat} {V : HV} {K : HV → Option HV} (hkb : kb ≤ 32) (he : e ≤ 64 * kb) : ∀ (r p f : Nat), p + r = e → (∀ g, p ≤ g → g < e → V 2500 0 g = 0 ∧ V 2600 0 g = 0) → r < f → f_X4_endSweep_L20 0 0 kb K f (nI p) V = f_X4_endSweep_L20 0 0 kb K (f - r) (nI e) V
  | 0, p, f, hr, _, _ => by rw [show p = e by omega, Nat.sub_zero]
  | r + 1, p, 0, _, _, hf => absurd hf (by omega)
  | r + 1, p, f + 1, hr, hz, hf => by
    have ip : inb (nI p) (64 * kb) := inb_nI (by omega) (by omega)
    have z := hz p (Nat.le_refl _) (by omega)
    conv => lhs; unfold f_X4_endSweep_L20
    rw [ofNat_nI, if_neg (fun q => by have := (nI_leI (by omega) (by omega)).mp q; omega), chk_t ip, lt_def, chk_t ip, jn_def, cl_nI (by omega), z.2, z.1, if_neg (show ¬ (0 : Int32) = 3 by decide)]
    dsimp only
    rw [lt_def, show (0 : Int32) = nI 0 from rfl, max_C (by decide), lt_def, if_neg (show ¬ 1 < 0 by decide), nI_add, es_gap hkb he r (p + 1) f (by omega) (fun g h1 h2 => hz g (by omega) h2) (by omega), show f + 1 - (r + 1) = f - r by omega]
theorem es_L {kb : Nat} (hkb : kb ≤ 32) : ∀ (l : List Ob) (p f H : Nat) (V : HV) (T R : Nat → Bool), srt (64 * kb) p l → (∀ g, p ≤ g → g < 64 * kb → V 2500 0 g = nI (lk l g).1 ∧ V 2600 0 g = nI (lk l g).2) → (∀ q, q < 64 * kb → V 2400 0 q = mk (T q) (R q)) → V 305 0 0 = nI H → swn l ≤ H → 64 * kb - p + 1 < f → ∃ V', (∀ K : HV → Option HV, f_X4_endSweep_L20 0 0 kb K f (nI p) V = K V') ∧ agr [305, 2400, 2500, 2600] V V' ∧ (∀ g, g < p → V' 2500 0 g = V 2500 0 g ∧ V' 2600 0 g = V 2600 0 g) ∧ (∀ g, p ≤ g → g < 64 * kb → V' 2500 0 g = nI (lk (sw l) g).1 ∧ V' 2600 0 g = nI (lk (sw l) g).2) ∧ (∀ q, q < 64 * kb → V' 2400 0 q = mk (T q) (if swb l q = true then false else R q)) ∧ V' 305 0 0 = nI (H - swn l)
  | [], p, f, H, V, T, R, hs, hz, hm, h5, hH, hf => by
    have hle : p ≤ 64 * kb := hs
    refine ⟨V, fun K => ?_, (agr_rfl V).sub (by decide), fun _ _ => ⟨rfl, rfl⟩, fun g h1 h2 => hz g h1 h2, fun q hq => ?_, h5⟩
    · rw [es_gap hkb (Nat.le_refl _) (64 * kb - p) p f (by omega) (fun g h1 h2 => hz g h1 h2) (by omega)]
      obtain ⟨f', e⟩ : ∃ f', f - (64 * kb - p) = f' + 1 := ⟨f - (64 * kb - p) - 1, by omega⟩
      rw [e]
      unfold f_X4_endSweep_L20
      rw [ofNat_nI, if_pos (nI_le (Nat.le_refl _) (by omega))]
    · rw [hm q hq, if_neg (show ¬ swb [] q = true by unfold swb; simp)]
  | o :: l, p, f, H, V, T, R, hs, hz, hm, h5, hH, hf => by
    obtain ⟨h1, h2, h3, h4⟩ := hs
    have hle := srt_le h4
    have esn : swn (o :: l) = (if o.2.2 = 3 then o.2.1 else 0) + swn l := rfl
    obtain ⟨f', ef⟩ : ∃ f', f - (o.1 - p) = f' + 1 := ⟨f - (o.1 - p) - 1, by omega⟩
    have zo : V 2500 0 o.1 = nI o.2.1 ∧ V 2600 0 o.1 = nI o.2.2 := by
      have := hz o.1 h1 (by omega)
      unfold lk at this
      rw [if_pos rfl] at this
      exact this
    have ip : inb (nI o.1) (64 * kb) := inb_nI (by omega) (by omega)
    have h22 : o.2.2 < 4 := by omega
    have emax : (if 1 < o.2.1 then o.2.1 else 1) = o.2.1 := by
      by_cases q : 1 < o.2.1
      · rw [if_pos q]
      · rw [if_neg q]; omega
    have z0 : ∀ g, p ≤ g → g < o.1 + o.2.1 → g ≠ o.1 → V 2500 0 g = nI 0 ∧ V 2600 0 g = nI 0 := by
      intro g y1 y2 y3
      have := hz g y1 (by omega)
      have e0 : lk (o :: l) g = (0, 0) := by
        unfold lk
        rw [if_neg y3]
        exact lk_lo h4 (by omega)
      rw [e0] at this
      exact this
    have gap : ∀ K : HV → Option HV, f_X4_endSweep_L20 0 0 kb K f (nI p) V = f_X4_endSweep_L20 0 0 kb K (f' + 1) (nI o.1) V := fun K => by
      rw [es_gap (e := o.1) hkb (by omega) (o.1 - p) p f (by omega) (fun g y1 y2 => z0 g y1 (by omega) (by omega)) (by omega), ef]
    have hzr : ∀ g, o.1 + o.2.1 ≤ g → g < 64 * kb → V 2500 0 g = nI (lk l g).1 ∧ V 2600 0 g = nI (lk l g).2 := fun g y1 y2 => by
      have := hz g (by omega) y2
      unfold lk at this
      rw [if_neg (by omega)] at this
      exact this
    by_cases q : o.2.2 = 3
    · rw [if_pos q] at esn
      have a1 : agr [305, 2500, 2600] V (sv (sv (sv V 2600 0 o.1 0) 2500 0 o.1 0) 305 0 0 (nI (H - o.2.1))) := (((agr_sv _ _ _ _ _).app (agr_sv _ _ _ _ _)).app (agr_sv _ _ _ _ _)).sub (by decide)
      have g25 : ∀ g, (sv (sv (sv V 2600 0 o.1 0) 2500 0 o.1 0) 305 0 0 (nI (H - o.2.1))) 2500 0 g = if g = o.1 then 0 else V 2500 0 g := fun g => by
        rw [sv_col (by decide)]
        by_cases e : g = o.1
        · rw [if_pos e, e, sv_at]
        · rw [if_neg e, sv_ne (fun q => e q.2.2), sv_col (by decide)]
      have g26 : ∀ g, (sv (sv (sv V 2600 0 o.1 0) 2500 0 o.1 0) 305 0 0 (nI (H - o.2.1))) 2600 0 g = if g = o.1 then 0 else V 2600 0 g := fun g => by
        rw [sv_col (by decide), sv_col (by decide)]
        by_cases e : g = o.1
        · rw [if_pos e, e, sv_at]
        · rw [if_neg e, sv_ne (fun q => e q.2.2)]
      have g5 : (sv (sv (sv V 2600 0 o.1 0) 2500 0 o.1 0) 305 0 0 (nI (H - o.2.1))) 305 0 0 = nI (H - o.2.1) := sv_at _ _ _ _ _
      have ev : (sv (sv (sv V 2600 0 o.1 0) 2500 0 o.1 0) 305 0 0 ((sv (sv V 2600 0 o.1 0) 2500 0 o.1 0) 305 0 0 - nI o.2.1)) = (sv (sv (sv V 2600 0 o.1 0) 2500 0 o.1 0) 305 0 0 (nI (H - o.2.1))) := by
        rw [sv_col (show ¬ 305 = 2500 by decide), sv_col (show ¬ 305 = 2600 by decide), h5, nI_sub (by omega)]
      generalize (sv (sv (sv V 2600 0 o.1 0) 2500 0 o.1 0) 305 0 0 (nI (H - o.2.1))) = V1 at *
      obtain ⟨V2, b1, b2, b3⟩ := revoke_C (kb := kb) (g := o.1) (n := o.2.1) (on := false) (V := V1) (T := T) (R := R) hkb hle (fun q hq => by rw [a1 2400 0 q (by decide)]; exact hm q hq)
      obtain ⟨V', e1, e2, e3, e4, e5, e6⟩ := es_L hkb l (o.1 + o.2.1) f' (H - o.2.1) V2 T (fun q => if o.1 ≤ q ∧ q < o.1 + o.2.1 then false else R q) h4 (fun g y1 y2 => by
        rw [b2 2500 0 g (by decide), b2 2600 0 g (by decide), g25, g26, if_neg (by omega), if_neg (by omega)]
        exact hzr g y1 y2) b3 ((b2 305 0 0 (by decide)).trans g5) (by omega) (by omega)
      refine ⟨V', fun K => ?_, ((a1.app b2).app e2).sub (by decide), fun g hg => ?_, fun g y1 y2 => ?_, fun g hg => ?_, ?_⟩
      · rw [gap K]
        unfold f_X4_endSweep_L20
        rw [ofNat_nI, if_neg (fun q => by have := (nI_leI (by omega) (by omega)).mp q; omega), chk_t ip, lt_def, chk_t ip, jn_def, cl_nI (by omega), zo.2, zo.1, if_pos (by rw [q]; rfl), chk_t ip, lt_def, chk_t ip, lt_def, lt_def, ev, b1, bnd_some]
        dsimp only
        rw [lt_def, max_C (by omega), emax, lt_def, nI_add]
        exact e1 K
      · rw [(e3 g (by omega)).1, (e3 g (by omega)).2, b2 2500 0 g (by decide), b2 2600 0 g (by decide), g25, g26, if_neg (by omega), if_neg (by omega)]
        exact ⟨rfl, rfl⟩
      · rw [sw_c3 q]
        by_cases z : o.1 + o.2.1 ≤ g
        · exact e4 g z y2
        · rw [(e3 g (by omega)).1, (e3 g (by omega)).2, b2 2500 0 g (by decide), b2 2600 0 g (by decide), g25, g26, lk_lo (srt_sw l _ h4) (by omega)]
          by_cases e : g = o.1
          · rw [if_pos e, if_pos e]; exact ⟨rfl, rfl⟩
          · rw [if_neg e, if_neg e]; exact z0 g y1 (by omega) e
      · rw [e5 g hg, swb_c]
        congr 1
        by_cases z : o.1 ≤ g ∧ g < o.1 + o.2.1
        · rw [decide_eq_true (show o.2.2 = 3 ∧ o.1 ≤ g ∧ g < o.1 + o.2.1 from ⟨q, z⟩), Bool.true_or, if_pos rfl, if_pos z]
          by_cases y : swb l g = true
          · rw [if_pos y]
          · rw [if_neg y]
        · rw [decide_eq_false (fun y => z y.2), Bool.false_or, if_neg z]
      · rw [e6]; congr 1; omega
    · rw [if_neg q] at esn
      obtain ⟨V', e1, e2, e3, e4, e5, e6⟩ := es_L hkb l (o.1 + o.2.1) f' H V T R h4 hzr hm h5 (by omega) (by omega)
      refine ⟨V', fun K => ?_, e2, fun g hg => e3 g (by omega), fun g y1 y2 => ?_, fun g hg => ?_, ?_⟩
      · rw [gap K]
        unfold f_X4_endSweep_L20
        rw [ofNat_nI, if_neg (fun q => by have := (nI_leI (by omega) (by omega)).mp q; omega), chk_t ip, lt_def, chk_t ip, jn_def, cl_nI (by omega), zo.2, zo.1, if_neg (show ¬ nI o.2.2 = 3 from fun z => q (nI_inj (b := 3) (by omega) (by decide) z))]
        dsimp only
        rw [lt_def, max_C (by omega), emax, lt_def, nI_add]
        exact e1 K
      · rw [sw_cn q]
        unfold lk
        by_cases z : o.1 + o.2.1 ≤ g
        · rw [if_neg (by omega)]
          exact e4 g z y2
        · rw [(e3 g (by omega)).1, (e3 g (by omega)).2]
          by_cases e : g = o.1
          · rw [if_pos e, e]; exact zo
          · rw [if_neg e, lk_lo (srt_sw l _ h4) (by omega)]
            exact z0 g y1 (by omega) e
      · rw [e5 g hg, swb_c, decide_eq_false (fun y => q y.1), Bool.false_or]
      · rw [e6]; congr 1; omega
/-! the reference's list -/
def Rw (W : HV) (k : Nat) (o : Ob) : Prop := W 7600 0 k = nI (16 * o.1) ∧ W 7700 0 k = nI (16 * o.2.1) ∧ i2b (W 7800 0 k) = decide (o.2.2 ≠ 1) ∧ i2b (W 7900 0 k) = decide (o.2.2 = 3)
theorem uv_L {g n k : Nat} (hg : g + n ≤ 2048) (hk : k < 2049) : ∀ (r i f : Nat) (W : HV), i + r = n → r < f → W 7600 0 k = nI (16 * g) → W 7700 0 k = nI (16 * n) → ∃ W', (∀ K : HV → Option HV, f_X12_sweep_L278 (nI k) true K f (nI (16 * (g + i))) W = K W') ∧ agr [2300] W W' ∧ (∀ q, i2b (W' 2300 0 q) = if g + i ≤ q ∧ q < g + n then false else i2b (W 2300 0 q))
  | _, _, 0, _, _, hf, _, _ => absurd hf (by omega)
  | 0, i, f + 1, W, hi, _, h6, h7 => by
    have ik : inb (nI k) 2049 := inb_nI hk (by decide)
    refine ⟨W, fun K => ?_, (agr_rfl W).sub (by decide), fun q => by rw [if_neg (by omega)]⟩
    unfold f_X12_sweep_L278
    rw [if_pos rfl, chk_t ik, chk_t ik, cl_nI (by omega), h6, h7, nI_add, if_pos (nI_le (by omega) (by omega))]
  | r + 1, i, f + 1, W, hi, hf, h6, h7 => by
    have ik : inb (nI k) 2049 := inb_nI hk (by decide)
    have ig : inb (nI (g + i)) 2048 := inb_nI (by omega) (by decide)
    obtain ⟨W', e1, e2, e3⟩ := uv_L hg hk r (i + 1) f (sv W 2300 0 (g + i) (b2i false)) (by omega) (by omega) (by rw [sv_col (by decide)]; exact h6) (by rw [sv_col (by decide)]; exact h7)
    refine ⟨W', fun K => ?_, (agr_sv W 2300 0 (g + i) _).trans e2, fun q => ?_⟩
    · unfold f_X12_sweep_L278
      rw [if_pos rfl, chk_t ik, chk_t ik, cl_nI (by omega), h6, h7, nI_add, if_neg (fun q => by have := (nI_leI (by omega) (by omega)).mp q; omega), dv16 (by omega), show 16 * (g + i) / 16 = g + i by omega, chk_t ig, lt_def, cl_nI (by omega), lt_def, show (16 : Int32) = nI 16 from rfl, nI_add, show 16 * (g + i) + 16 = 16 * (g + (i + 1)) by omega]
      exact e1 K
    · rw [e3 q]
      by_cases y : q = g + i
      · rw [if_neg (by omega), if_pos (by omega), y, sv_at, i2b_b2i]
      · rw [sv_ne (fun z => y z.2.2)]
        by_cases z : g + (i + 1) ≤ q ∧ q < g + n
        · rw [if_pos z, if_pos (by omega)]
        · rw [if_neg z, if_neg (by omega)]
theorem kp_L {kb : Nat} (hkb : kb ≤ 32) : ∀ (l : List Ob) (p m k f : Nat) (W : HV), srt (64 * kb) p l → m ≤ k → (∀ i o, l[i]? = some o → Rw W (k + i) o) → W 1055 0 0 = nI (k + l.length) → k + l.length ≤ 2048 → l.length < f → ∃ W', (∀ K : Int32 → HV → Option HV, f_X12_sweep_L238 0 K f (nI m) (nI k) W = K (nI (m + (sw l).length)) W') ∧ agr [2300, 7600, 7700, 7800, 7900] W W' ∧ (∀ j o, j < m → Rw W j o → Rw W' j o) ∧ (∀ i o, (sw l)[i]? = some o → Rw W' (m + i) o) ∧ (∀ q, i2b (W' 2300 0 q) = if swb l q = true then false else i2b (W 2300 0 q))
  | _, _, _, _, 0, _, _, _, _, _, _, hf => absurd hf (by omega)
  | [], p, m, k, f + 1, W, hs, hmk, ha, hn, hk, hf => by
    refine ⟨W, fun K => ?_, (agr_rfl W).sub (by decide), fun j o _ h => h, fun i o h => by simp [sw] at h, fun q => by rw [if_neg (show ¬ swb [] q = true by unfold swb; simp)]⟩
    unfold f_X12_sweep_L238
    rw [hn, if_pos (show nI (k + ([] : List Ob).length) ≤ nI k from nI_le (by simp) (by simp at hk; omega))]
    rfl
  | o :: l, p, m, k, f + 1, W, hs, hmk, ha, hn, hk, hf => by
    have hk' : k + l.length + 1 ≤ 2048 := by simp only [List.length_cons] at hk; omega
    have hf' : l.length < f := by simp only [List.length_cons] at hf; omega
    obtain ⟨hs1, hs2, hs3, hs4⟩ := hs
    have hle := srt_le hs4
    have ik : inb (nI k) 2049 := inb_nI (by omega) (by decide)
    have im : inb (nI m) 2049 := inb_nI (by omega) (by decide)
    obtain ⟨a1, a2, a3, a4⟩ := ha 0 o rfl
    rw [Nat.add_zero] at a1 a2 a3 a4
    have hnk : ¬ W 1055 0 0 ≤ nI k := fun q => by rw [hn] at q; have := (nI_leI (by simp only [List.length_cons]; omega) (by omega)).mp q; simp only [List.length_cons] at this; omega
    have tail : ∀ (X : HV) (b : Bool) (m' : Nat), agr [2300] W X → m' ≤ k + 1 → m ≤ m' → nI m + b2i (if b = true then false else true) = nI m' → ∃ W', (∀ K : Int32 → HV → Option HV, (chk (inb (nI k) 2049) <|
        chk (inb (nI m) 2049) <|
        lt (sv X 7600 0 (nI m).toNatClampNeg (X 7600 0 (nI k).toNatClampNeg)) fun V61 =>
        chk (inb (nI k) 2049) <|
        chk (inb (nI m) 2049) <|
        lt (sv V61 7700 0 (nI m).toNatClampNeg (V61 7700 0 (nI k).toNatClampNeg)) fun V64 =>
        chk (inb (nI k) 2049) <|
        chk (inb (nI m) 2049) <|
        lt (sv V64 7800 0 (nI m).toNatClampNeg (b2i (i2b (V64 7800 0 (nI k).toNatClampNeg)))) fun V67 =>
        chk (inb (nI k) 2049) <|
        chk (inb (nI m) 2049) <|
        lt (sv V67 7900 0 (nI m).toNatClampNeg (b2i (i2b (V67 7900 0 (nI k).toNatClampNeg)))) fun V70 =>
        lt (if b = true then (false) else (true) : Bool) fun v71 =>
        lt (nI m + (b2i v71)) fun v73 =>
        lt (nI k + 1) fun v74 =>
        f_X12_sweep_L238 0 K f v73 v74 V70) = K (nI (m' + (sw l).length)) W') ∧ agr [2300, 7600, 7700, 7800, 7900] W W' ∧ (∀ j o, j < m → Rw W j o → Rw W' j o) ∧ (m < m' → Rw W' m o) ∧ (∀ i o, (sw l)[i]? = some o → Rw W' (m' + i) o) ∧ (∀ q, i2b (W' 2300 0 q) = if swb l q = true then false else i2b (X 2300 0 q)) := by
      intro X b m' hX hm' hmm hb
      generalize hY : sv (sv (sv (sv X 7600 0 m (W 7600 0 k)) 7700 0 m (W 7700 0 k)) 7800 0 m (b2i (i2b (W 7800 0 k)))) 7900 0 m (b2i (i2b (W 7900 0 k))) = X4
      have aX : agr [7600, 7700, 7800, 7900] X X4 := by rw [← hY]; exact ((((agr_sv _ _ _ _ _).app (agr_sv _ _ _ _ _)).app (agr_sv _ _ _ _ _)).app (agr_sv _ _ _ _ _)).sub (by decide)
      have aX' : agr [2300, 7600, 7700, 7800, 7900] W X4 := (hX.app aX).sub (by decide)
      have row : ∀ j, j ≠ m → ∀ o, Rw W j o → Rw X4 j o := by
        intro j hj o ⟨b1, b2, b3, b4⟩
        refine ⟨?_, ?_, ?_, ?_⟩
        · rw [← hY, sv_col (by decide), sv_col (by decide), sv_col (by decide), sv_ne (fun q => hj q.2.2), hX 7600 0 j (by decide)]; exact b1
        · rw [← hY, sv_col (by decide), sv_col (by decide), sv_ne (fun q => hj q.2.2), sv_col (by decide), hX 7700 0 j (by decide)]; exact b2
        · rw [← hY, sv_col (by decide), sv_ne (fun q => hj q.2.2), sv_col (by decide), sv_col (by decide), hX 7800 0 j (by decide)]; exact b3
        · rw [← hY, sv_ne (fun q => hj q.2.2), sv_col (by decide), sv_col (by decide), sv_col (by decide), hX 7900 0 j (by decide)]; exact b4
      have rowm : Rw X4 m o := by
        refine ⟨?_, ?_, ?_, ?_⟩
        · rw [← hY, sv_col (by decide), sv_col (by decide), sv_col (by decide), sv_at]; exact a1
        · rw [← hY, sv_col (by decide), sv_col (by decide), sv_at]; exact a2
        · rw [← hY, sv_col (by decide), sv_at, i2b_b2i]; exact a3
        · rw [← hY, sv_at, i2b_b2i]; exact a4
      obtain ⟨W', e1, e2, e3, e4, e5⟩ := kp_L hkb l (o.1 + o.2.1) m' (k + 1) f X4 hs4 hm' (fun i o' hi => row _ (by omega) o' (by
        have := ha (i + 1) o' hi
        rw [show k + (i + 1) = k + 1 + i by omega] at this
        exact this)) (by rw [aX' 1055 0 0 (by decide), hn]; congr 1; simp only [List.length_cons]; omega) (by omega) hf'
      refine ⟨W', fun K => ?_, aX'.trans e2, fun j o' hj h => e3 j o' (by omega) (row j (by omega) o' h), fun hlt => e3 m o hlt rowm, e4, fun q => ?_⟩
      · rw [chk_t ik, chk_t im, lt_def, chk_t ik, chk_t im, lt_def, chk_t ik, chk_t im, lt_def, chk_t ik, chk_t im, lt_def, lt_def, lt_def, lt_def, cl_nI (by omega), cl_nI (by omega), hb, nI_1]
        have ee : (sv (sv (sv (sv X 7600 0 m (X 7600 0 k)) 7700 0 m ((sv X 7600 0 m (X 7600 0 k)) 7700 0 k)) 7800 0 m (b2i (i2b ((sv (sv X 7600 0 m (X 7600 0 k)) 7700 0 m ((sv X 7600 0 m (X 7600 0 k)) 7700 0 k)) 7800 0 k)))) 7900 0 m (b2i (i2b ((sv (sv (sv X 7600 0 m (X 7600 0 k)) 7700 0 m ((sv X 7600 0 m (X 7600 0 k)) 7700 0 k)) 7800 0 m (b2i (i2b ((sv (sv X 7600 0 m (X 7600 0 k)) 7700 0 m ((sv X 7600 0 m (X 7600 0 k)) 7700 0 k)) 7800 0 k)))) 7900 0 k)))) = X4 := by
          rw [← hY, sv_col (show ¬ 7900 = 7800 by decide), sv_col (show ¬ 7900 = 7700 by decide), sv_col (show ¬ 7900 = 7600 by decide), sv_col (show ¬ 7800 = 7700 by decide), sv_col (show ¬ 7800 = 7600 by decide), sv_col (show ¬ 7700 = 7600 by decide), hX 7600 0 k (by decide), hX 7700 0 k (by decide), hX 7800 0 k (by decide), hX 7900 0 k (by decide)]
        rw [ee]
        exact e1 K
      · rw [e5 q, aX 2300 0 q (by decide)]
    by_cases q : o.2.2 = 3
    · obtain ⟨X, u1, u2, u3⟩ := uv_L (g := o.1) (n := o.2.1) (k := k) (by omega) (by omega) o.2.1 0 FU W (by omega) (FU_gt (by omega)) a1 a2
      rw [Nat.add_zero] at u1
      obtain ⟨W', e1, e2, e3, e4, e5, e6⟩ := tail X true m u2 (by omega) (Nat.le_refl _) (by rw [if_pos rfl]; exact (nI_add _ 0).trans (by rw [Nat.add_zero]))
      refine ⟨W', fun K => ?_, e2, e3, by rw [sw_c3 q]; exact e5, fun g => ?_⟩
      · unfold f_X12_sweep_L238
        rw [if_neg hnk, chk_t ik, jn_def, jn_def, cl_nI (by omega), a3, a4, decide_eq_true (show o.2.2 ≠ 1 by omega), decide_eq_true q, if_pos rfl, chk_t ik, if_pos rfl]
        dsimp only
        rw [chk_t ik, lt_def, a1, jn_def, u1, sw_c3 q]
        have := e1 K
        rw [cl_nI (show k < 2147483648 by omega)] at this
        exact this
      · rw [e6 g, swb_c, u3 g]
        by_cases z : o.1 ≤ g ∧ g < o.1 + o.2.1
        · rw [decide_eq_true (show o.2.2 = 3 ∧ o.1 ≤ g ∧ g < o.1 + o.2.1 from ⟨q, z⟩), Bool.true_or, if_pos rfl, if_pos (show o.1 + 0 ≤ g ∧ g < o.1 + o.2.1 by omega)]
          by_cases y : swb l g = true
          · rw [if_pos y]
          · rw [if_neg y]
        · rw [decide_eq_false (fun y => z y.2), Bool.false_or, if_neg (show ¬ (o.1 + 0 ≤ g ∧ g < o.1 + o.2.1) by omega)]
    · obtain ⟨W', e1, e2, e3, e4, e5, e6⟩ := tail W false (m + 1) ((agr_rfl W).sub (by decide)) (by omega) (by omega) (by rw [if_neg (show ¬ false = true by decide)]; exact nI_add _ 1)
      have gf : ∀ A B : Option HV, (if decide (o.2.2 ≠ 1) = true then (chk (inb (nI k) 2049) <| if false = true then A else B) else B) = B := by
        intro A B
        by_cases y : o.2.2 = 1
        · rw [decide_eq_false (fun z => z y), if_neg (show ¬ false = true by decide)]
        · rw [decide_eq_true y, if_pos rfl, chk_t ik, if_neg (show ¬ false = true by decide)]
      refine ⟨W', fun K => ?_, e2, e3, ?_, fun g => ?_⟩
      · unfold f_X12_sweep_L238
        rw [if_neg hnk, chk_t ik, jn_def, jn_def, cl_nI (by omega), a3, a4, decide_eq_false q, gf]
        dsimp only
        rw [chk_t ik, lt_def, a1, jn_def]
        obtain ⟨ff, hff⟩ : ∃ ff, FU = ff + 1 := ⟨FU - 1, by have := FU_gt (k := 5) (by decide); omega⟩
        rw [hff]
        unfold f_X12_sweep_L278
        rw [if_neg (show ¬ false = true by decide), sw_cn q, List.length_cons, show m + ((sw l).length + 1) = m + 1 + (sw l).length by omega]
        have := e1 K
        rw [cl_nI (show k < 2147483648 by omega)] at this
        exact this
      · rw [sw_cn q]
        intro i o' hi
        cases i with
        | zero =>
          have e : o' = o := by simp at hi; exact hi.symm
          rw [Nat.add_zero, e]
          exact e4 (by omega)
        | succ i =>
          rw [show m + (i + 1) = m + 1 + i by omega]
          exact e5 i o' hi
      · rw [e6 g, swb_c, decide_eq_false (fun y => q y.1), Bool.false_or]
