/-! stores at both sides -/
theorem um_at (M : Nat → Int32) (g : Nat) (x : Int32) : um M g x g = x := if_pos rfl
theorem um_ne {M : Nat → Int32} {g j : Nat} {x : Int32} (h : ¬ j = g) : um M g x j = M j := if_neg h
theorem um_um (M : Nat → Int32) (g : Nat) (x y : Int32) : um (um M g x) g y = um M g y := by
  funext j
  by_cases h : j = g <;> simp [um, h]
theorem wcap_C {kb q i : Nat} {t r b : Bool} {V : HV} (hkb : kb ≤ 32) (h1 : 1 ≤ kb) (hq : q < 64 * kb) (hm : V 2400 0 q = mk t r) : ∃ V', f_X8_writeCap kb 0 (nI (16 * q)) i b V = some V' ∧ V' 2300 0 = wc (V 2300 0) (16 * q) (cC V i) ∧ V' 2400 0 = um (V 2400 0) q (mk b r) ∧ agr [2300, 2400] V V' := by
  have d0 : 16 * q / 16 = q := by omega
  have d1 : (16 * q + 4) / 16 = q := by omega
  have d2 : (16 * q + 8) / 16 = q := by omega
  have d3 : (16 * q + 12) / 16 = q := by omega
  obtain ⟨V1, a1, a2, a3, a4⟩ := write_C (x := V 0 i 0) (a := 16 * q) (n := 4) hkb h1 (by decide) (by decide) (by omega) (by rw [d0]; exact hm)
  rw [d0] at a3
  obtain ⟨V2, b1, b2, b3, b4⟩ := write_C (x := V1 1 i 0) (a := 16 * q + 4) (n := 4) (t := false) (r := r) (V := V1) hkb h1 (by decide) (by decide) (by omega) (by rw [d1, a3, um_at])
  rw [d1] at b3
  obtain ⟨V3, c1, c2, c3, c4⟩ := write_C (x := V2 2 i 0) (a := 16 * q + 8) (n := 4) (t := false) (r := r) (V := V2) hkb h1 (by decide) (by decide) (by omega) (by rw [d2, b3, um_at])
  rw [d2] at c3
  obtain ⟨V4, e1, e2, e3, e4⟩ := write_C (x := V3 3 i 0 ||| (V3 4 i 0 <<< ((8 : Int32) &&& 31))) (a := 16 * q + 12) (n := 4) (t := false) (r := r) (V := V3) hkb h1 (by decide) (by decide) (by omega) (by rw [d3, c3, um_at])
  rw [d3] at e3
  have hm4 : V4 2400 0 (16 * q / 16) = mk false r := by rw [d0, e3, um_at]
  have k1 : V1 1 i 0 = V 1 i 0 := a4 1 i 0 (by decide)
  have k2 : V2 2 i 0 = V 2 i 0 := (b4 2 i 0 (by decide)).trans (a4 2 i 0 (by decide))
  have ag3 := a4.trans (b4.trans c4)
  have k3 : V3 3 i 0 = V 3 i 0 := ag3 3 i 0 (by decide)
  have k4 : V3 4 i 0 = V 4 i 0 := ag3 4 i 0 (by decide)
  refine ⟨sv V4 2400 0 q (mk b r), ?_, ?_, ?_, ((ag3.trans e4).app (agr_sv _ _ _ _ _)).sub (by decide)⟩
  · unfold f_X8_writeCap
    have m1 := mark1_C (b := b) hkb (by omega) hm4
    rw [d0] at m1
    rw [show (4 : Int32) = nI 4 from rfl, show (8 : Int32) = nI 8 from rfl, show (12 : Int32) = nI 12 from rfl, nI_add, nI_add, nI_add, a1, bnd_some, b1, bnd_some, c1, bnd_some]
    rw [show nI 8 = (8 : Int32) from rfl, e1, bnd_some, m1, bnd_some]
  · have : (sv V4 2400 0 q (mk b r)) 2300 0 = V4 2300 0 := funext fun j => sv_col (by decide)
    rw [this, e2, c2, b2, a2, k1, k2, k3, k4]
    rfl
  · rw [sv_row, e3, c3, b3, a3]
    simp only [um_um]
    funext j
    by_cases h : j = q <;> simp [um, h]
theorem pcap_M {q i : Nat} {b : Bool} {W : HV} (hq : q < 2048) (hi : i < 600) : ∃ W', f_X12_putCapability 0 (nI (16 * q)) (nI i) b W = some W' ∧ W' 2100 0 = wc (W 2100 0) (16 * q) (cM W i) ∧ W' 2200 0 = um (W 2200 0) q (b2i b) ∧ agr [2100, 2200] W W' := by
  obtain ⟨W1, a1, a2, a4⟩ := put_M (x := W 2400 0 i) (W := W) (a := 16 * q) (n := 4) (by decide) (by omega)
  obtain ⟨W2, b1, b2, b4⟩ := put_M (x := W1 2500 0 i) (W := W1) (a := 16 * q + 4) (n := 4) (by decide) (by omega)
  obtain ⟨W3, c1, c2, c4⟩ := put_M (x := W2 2600 0 i) (W := W2) (a := 16 * q + 8) (n := 4) (by decide) (by omega)
  obtain ⟨W4, e1, e2, e4⟩ := put_M (x := W3 2700 0 i ||| (W3 2800 0 i <<< ((8 : Int32) &&& 31))) (W := W3) (a := 16 * q + 12) (n := 4) (by decide) (by omega)
  have ag3 := a4.trans (b4.trans c4)
  have k1 : W1 2500 0 i = W 2500 0 i := a4 2500 0 i (by decide)
  have k2 : W2 2600 0 i = W 2600 0 i := (b4 2600 0 i (by decide)).trans (a4 2600 0 i (by decide))
  have k3 : W3 2700 0 i = W 2700 0 i := ag3 2700 0 i (by decide)
  have k4 : W3 2800 0 i = W 2800 0 i := ag3 2800 0 i (by decide)
  refine ⟨sv W4 2200 0 q (b2i b), ?_, ?_, ?_, ((ag3.trans e4).app (agr_sv _ _ _ _ _)).sub (by decide)⟩
  · unfold f_X12_putCapability
    simp only [chk_t (inb_nI hi (by decide)), cl_nI (show i < 2147483648 by omega), lt_def]
    rw [dv16 (by omega), show 16 * q / 16 = q by omega]
    rw [show (4 : Int32) = nI 4 from rfl, show (8 : Int32) = nI 8 from rfl, show (12 : Int32) = nI 12 from rfl, nI_add, nI_add, nI_add, a1, bnd_some, b1, bnd_some, c1, bnd_some]
    rw [show nI 8 = (8 : Int32) from rfl, e1, bnd_some, chk_t (inb_nI hq (by decide)), cl_nI (by omega)]
  · have : (sv W4 2200 0 q (b2i b)) 2100 0 = W4 2100 0 := funext fun j => sv_col (by decide)
    rw [this, e2, c2, b2, a2, k1, k2, k3, k4]
    rfl
  · rw [sv_row, row_fr (ag3.trans e4) (by decide)]
    rfl
def mag (kb : Nat) (M N : Nat → Int32) : Prop := ∀ a, a < 1024 * kb → M a = N a
theorem mag_wr {kb a n : Nat} {M N : Nat → Int32} {x : Int32} (h : mag kb M N) : mag kb (wr M a n x) (wr N a n x) := by
  intro j hj
  unfold wr
  by_cases h2 : a ≤ j ∧ j < a + n
  · rw [if_pos h2, if_pos h2]
  · rw [if_neg h2, if_neg h2]; exact h j hj
theorem mag_wc {kb a : Nat} {M N : Nat → Int32} {c : Cp} (h : mag kb M N) : mag kb (wc M a c) (wc N a c) := mag_wr (mag_wr (mag_wr (mag_wr h)))
theorem mag_mC {kb q : Nat} {M N g : Nat → Int32} (h : mag kb M N) (hq : q < 64 * kb) : mC M g q = mC N g q := by
  have e : ∀ d, d ≤ 12 → mw M (16 * q + d) = mw N (16 * q + d) := fun d hd => ldv_congr 4 0 (fun j hj => h _ (by omega))
  unfold mC
  rw [e 4 (by decide), e 8 (by decide), e 12 (by decide), show mw M (16 * q) = mw N (16 * q) from e 0 (by decide)]
/-- of memory's capabilities some go, the others stay -/
def Msub (W W' : HV) : Prop := ∀ q, i2b (W' 2200 0 q) = true → mC (W' 2100 0) (W' 2200 0) q = mC (W 2100 0) (W 2200 0) q
theorem Mgd_sub {kb : Nat} {Y : HV} {l : List Ob} {W W' : HV} (h : Msub W W') (hg : Mgd kb Y l W) : Mgd kb Y l W' := by
  intro q hq
  cases ht : i2b (W' 2200 0 q) with
  | true => rw [h q ht]; exact hg q hq
  | false => exact gd_mem ht
theorem Jm_sub {Y : HV} {l : List Ob} {W W' : HV} (h : Msub W W') (hs : W' 1061 0 0 = W 1061 0 0) (hg : Jm Y l W) : Jm Y l W' := by
  intro s e hs' q hq
  cases ht : i2b (W' 2200 0 q) with
  | true => rw [h q ht]; exact hg s (hs.symm.trans e) hs' q hq
  | false => exact gd_mem ht
theorem Rm_mk {kb g : Nat} {V W : HV} (h : Rm kb V W) (hg : g < 64 * kb) : V 2400 0 g = mk (i2b (W 2200 0 g)) (i2b (W 2300 0 g)) := h.2 g hg
/-- a store of a number -/
theorem st_num {x kb a n : Nat} {Y : HV} {l : List Ob} {V W : HV} {v : Int32} (h : ST x kb Y l V W) (hn : n = 1 ∨ n = 2 ∨ n = 4) (ha : a + n ≤ 1024 * kb) (hal : a % n = 0) : ∃ V' W1, f_X8_write kb 0 (nI a) (nI n) v V = some V' ∧ f_X12_put 0 (nI a) (nI n) v W = some W1 ∧ ST x kb Y l V' (sv W1 2200 0 (a / 16) (b2i false)) ∧ agr [2300, 2400] V V' ∧ agr [2100, 2200] W (sv W1 2200 0 (a / 16) (b2i false)) ∧ Msub W (sv W1 2200 0 (a / 16) (b2i false)) := by
  have hL := h.1
  have hRm := h.2.2.2.2.2.1
  obtain ⟨k1, k2, -⟩ := hL
  have hn4 : n ≤ 4 := by omega
  have hg : a / 16 < 64 * kb := by omega
  obtain ⟨V', a1, a2, a3, a4⟩ := write_C (x := v) k2 k1 hn4 (by omega) ha (Rm_mk hRm hg)
  obtain ⟨W1, b1, b2, b3⟩ := put_M (x := v) (W := W) hn4 (show a + n ≤ 32768 by omega)
  have hagW : agr [2100, 2200] W (sv W1 2200 0 (a / 16) (b2i false)) := (b3.app (agr_sv _ _ _ _ _)).sub (by decide)
  have r1 : (sv W1 2200 0 (a / 16) (b2i false)) 2100 0 = wr (W 2100 0) a n v := by rw [← b2]; exact funext fun j => sv_col (by decide)
  have r2 : (sv W1 2200 0 (a / 16) (b2i false)) 2200 0 = um (W 2200 0) (a / 16) (b2i false) := by
    rw [sv_row, row_fr b3 (by decide)]
    rfl
  have hsub : Msub W (sv W1 2200 0 (a / 16) (b2i false)) := by
    intro q hq
    rw [r2] at hq
    rw [r1, r2]
    by_cases hqa : q = a / 16
    · rw [hqa, um_at] at hq
      exact absurd hq (by decide)
    · exact mC_wr_ne hqa (by rcases hn with rfl | rfl | rfl <;> omega) (by omega) (um_ne hqa)
  refine ⟨V', W1, a1, b1, ST_mem h a4 hagW ⟨?_, fun g hg' => ?_⟩ (Mgd_sub hsub h.2.2.2.2.2.2.2.2.2.2.1), a4, hagW, hsub⟩
  · rw [a2, r1]
    exact mag_wr hRm.1
  · rw [a3, r2, hagW 2300 0 g (by decide)]
    by_cases hga : g = a / 16
    · subst hga
      rw [um_at, um_at]
      rfl
    · rw [um_ne hga, um_ne hga]
      exact hRm.2 g hg'
/-- a store of a capability -/
theorem st_cap {x kb q i j : Nat} {Y : HV} {l : List Ob} {V W : HV} {b : Bool} (h : ST x kb Y l V W) (hq : q < 64 * kb) (hj : j < 582) (hc : cC V i = cM W j) (hb : b = true → (cM W j).2.2.2.2.2 = true) : ∃ V' W', f_X8_writeCap kb 0 (nI (16 * q)) i b V = some V' ∧ f_X12_putCapability 0 (nI (16 * q)) (nI j) b W = some W' ∧ ST x kb Y l V' W' ∧ agr [2300, 2400] V V' ∧ agr [2100, 2200] W W' ∧ (gd Y (sw l) (cM W j) → Jm Y l W → Jm Y l W') := by
  have hRm := h.2.2.2.2.2.1
  obtain ⟨k1, k2, -⟩ := h.1
  obtain ⟨V', a1, a2, a3, a4⟩ := wcap_C (i := i) (b := b) k2 k1 hq (Rm_mk hRm hq)
  obtain ⟨W', b1, b2, b3, b4⟩ := pcap_M (i := j) (b := b) (W := W) (show q < 2048 by omega) (by omega)
  have hgd := (h.2.2.2.2.2.2.2.2.2.1 j hj).2.1
  have e1 : mC (W' 2100 0) (W' 2200 0) q = ((cM W j).1, (cM W j).2.1, (cM W j).2.2.1, (cM W j).2.2.2.1, (cM W j).2.2.2.2.1, b) := by
    rw [b2, b3, mC_wc hgd.1 hgd.2.1, um_at, i2b_b2i]
  have e2 : ∀ q', q' ≠ q → mC (W' 2100 0) (W' 2200 0) q' = mC (W 2100 0) (W 2200 0) q' := fun q' hne => by
    rw [b2, b3]
    exact mC_wc_ne hne (um_ne hne)
  refine ⟨V', W', a1, b1, ST_mem h a4 b4 ⟨?_, fun g hg' => ?_⟩ ?_, a4, b4, ?_⟩
  · rw [a2, b2, hc]
    exact mag_wc hRm.1
  · rw [a3, b3, b4 2300 0 g (by decide)]
    by_cases hga : g = q
    · subst hga
      rw [um_at, um_at, i2b_b2i]
      rfl
    · rw [um_ne hga, um_ne hga]
      exact hRm.2 g hg'
  · intro q' hq'
    by_cases hne : q' = q
    · subst hne
      rw [e1]
      exact gd_tag (show gd Y l ((cM W j).1, (cM W j).2.1, (cM W j).2.2.1, (cM W j).2.2.2.1, (cM W j).2.2.2.2.1, (cM W j).2.2.2.2.2) from hgd) hb
    · rw [e2 q' hne]
      exact h.2.2.2.2.2.2.2.2.2.2.1 q' hq'
  · intro hsw hJ s hs hs' q' hq'
    rw [b4 1061 0 0 (by decide)] at hs
    by_cases hne : q' = q
    · subst hne
      rw [e1]
      exact gd_tag (show gd Y (sw l) ((cM W j).1, (cM W j).2.1, (cM W j).2.2.1, (cM W j).2.2.2.1, (cM W j).2.2.2.2.1, (cM W j).2.2.2.2.2) from hsw) hb
    · rw [e2 q' hne]
      exact hJ s hs hs' q' hq'
