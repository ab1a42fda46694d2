/-! entries -/
theorem d0 {V V1 : HV} {i : Nat} {f : Nat → Cp} {c : Cp} (h : UC V (up f i c) V1) (x : Int32) : UC V (up f i (x, c.2)) (sv V1 0 i 0 x) := by
  have u := s0_U V1 i x
  rw [h.1, up_at, up_up] at u
  exact h.trans u
theorem d4 {V V1 : HV} {i : Nat} {f : Nat → Cp} {c : Cp} (h : UC V (up f i c) V1) (x : Int32) : UC V (up f i (c.1, c.2.1, c.2.2.1, c.2.2.2.1, x, c.2.2.2.2.2)) (sv V1 4 i 0 x) := by
  have u := s4_U V1 i x
  rw [h.1, up_at, up_up] at u
  exact h.trans u
theorem e0' {W W1 : HV} {i : Nat} {f : Nat → Cp} {c : Cp} (h : UM W (up f i c) W1) (x : Int32) : UM W (up f i (x, c.2)) (sv W1 2400 0 i x) := by
  have u := m0_U W1 i x
  rw [h.1, up_at, up_up] at u
  exact h.trans u
theorem e4' {W W1 : HV} {i : Nat} {f : Nat → Cp} {c : Cp} (h : UM W (up f i c) W1) (x : Int32) : UM W (up f i (c.1, c.2.1, c.2.2.1, c.2.2.2.1, x, c.2.2.2.2.2)) (sv W1 2800 0 i x) := by
  have u := m4_U W1 i x
  rw [h.1, up_at, up_up] at u
  exact h.trans u
def tgt (c : Cp) (i : Int32) : Cp := (c.1 + i, c.2.1, c.2.2.1, c.2.2.2.1, 0, c.2.2.2.2.2)
def nin (y : Int32) (b : Bool) : Bool := if y = 2 then false else if y = 3 then true else b
theorem ent_C {kb t : Nat} {i : Int32} {c : Cp} {V : HV} (ht : t < 6) (hc : cC V 582 = c) : cC (f_X2_enter kb t 582 i V) = up (cC V) (17 * t + 16) (tgt c i) ∧ agr [0, 1, 2, 3, 4, 5, 710] V (f_X2_enter kb t 582 i V) ∧ (∀ u, u ≠ t → (f_X2_enter kb t 582 i V) 710 u 0 = V 710 u 0) ∧ i2b ((f_X2_enter kb t 582 i V) 710 t 0) = nin c.2.2.2.2.1 (i2b (V 710 t 0)) := by
  have u1 := ucp (i := 17 * t + 16) (UC_rfl V) hc
  have u2 := d4 u1 0
  have e0 : (sv (kC V (17 * t + 16) (cC V 582)) 4 (17 * t + 16) 0 0) 0 (17 * t + 16) 0 = c.1 := V0_cap (c := (c.1, c.2.1, c.2.2.1, c.2.2.2.1, 0, c.2.2.2.2.2)) (by rw [u2.1, up_at])
  have u3 := d0 u2 (c.1 + i)
  have e4 : (sv (sv (kC V (17 * t + 16) (cC V 582)) 4 (17 * t + 16) 0 0) 0 (17 * t + 16) 0 (c.1 + i)) 4 582 0 = c.2.2.2.2.1 := congrArg (fun c : Cp => c.2.2.2.2.1) (show cC (sv (sv (kC V (17 * t + 16) (cC V 582)) 4 (17 * t + 16) 0 0) 0 (17 * t + 16) 0 (c.1 + i)) 582 = c by rw [u3.1, up_ne (by omega), hc])
  have e7 : ∀ u, (sv (sv (kC V (17 * t + 16) (cC V 582)) 4 (17 * t + 16) 0 0) 0 (17 * t + 16) 0 (c.1 + i)) 710 u 0 = V 710 u 0 := fun u => u3.2 710 u 0 (by decide)
  unfold f_X2_enter
  rw [lt_def, lt_def, lt_def, copy_C, e0, e4]
  generalize sv (sv (kC V (17 * t + 16) (cC V 582)) 4 (17 * t + 16) 0 0) 0 (17 * t + 16) 0 (c.1 + i) = V3 at u3 e7 ⊢
  unfold nin
  by_cases q2 : c.2.2.2.2.1 = 2
  · rw [if_pos q2, if_pos q2, lt_def]
    refine ⟨?_, (u3.2.app (agr_sv _ _ _ _ _)).sub (by decide), fun u hu => ?_, ?_⟩
    · rw [cC_fr (agr_sv V3 710 t 0 _) (by decide)]; exact u3.1
    · rw [sv_ne (fun q => hu q.2.1)]; exact e7 u
    · rw [sv_at, i2b_b2i]
  · rw [if_neg q2, if_neg q2]
    by_cases q3 : c.2.2.2.2.1 = 3
    · rw [if_pos q3, if_pos q3, lt_def]
      refine ⟨?_, (u3.2.app (agr_sv _ _ _ _ _)).sub (by decide), fun u hu => ?_, ?_⟩
      · rw [cC_fr (agr_sv V3 710 t 0 _) (by decide)]; exact u3.1
      · rw [sv_ne (fun q => hu q.2.1)]; exact e7 u
      · rw [sv_at, i2b_b2i]
    · rw [if_neg q3, if_neg q3]
      exact ⟨u3.1, u3.2.sub (by decide), fun u _ => e7 u, by rw [e7]⟩
noncomputable def ett (v5 x1 : Int32) (p17 : HV) : Option (Int32 × HV) :=
  lt (f_X12_pcc 0 p17) fun v27 =>
  bnd (f_X12_copy 0 583 v27 p17) fun p28 =>
  lt (f_X12_pcc 0 p28) fun v29 =>
  chk (inb v29 600) <|
  lt (if v5 = 0 then (x1) else (0) : Int32) fun v31 =>
  chk (inb v29 600) <|
  lt (sv p28 2400 0 (v29).toNatClampNeg ((p28 2400 0 (v29).toNatClampNeg) + v31)) fun V34 =>
  lt (f_X12_pcc 0 V34) fun v35 =>
  chk (inb v35 600) <|
  lt (sv V34 2800 0 (v35).toNatClampNeg 0) fun V37 =>
  jn (fun v38 =>
  chk (inb (V37 1080 0 0) 6) <|
  lt (sv V37 5200 0 (V37 1080 0 0).toNatClampNeg (b2i v38)) fun V42 =>
  some (0, V42)) fun k39 =>
  if v5 = 2 then (k39 false) else (jn (k39 true) fun k44 =>
  if v5 = 3 then (k44) else (chk (inb (V37 1080 0 0) 6) <|
  if (i2b (V37 5200 0 (V37 1080 0 0).toNatClampNeg)) = true then (k44) else (k39 false)))
theorem ent_M {t : Nat} {i y : Int32} {c : Cp} {W : HV} (h80 : W 1080 0 0 = nI t) (ht : t < 6) (hc : cM W 583 = c) : ∃ W', ett y i W = some (0, W') ∧ cM W' = up (cM W) (17 * t + 16) (tgt c (if y = 0 then i else 0)) ∧ agr [2400, 2500, 2600, 2700, 2800, 2900, 5200] W W' ∧ (∀ u, u ≠ t → W' 5200 0 u = W 5200 0 u) ∧ i2b (W' 5200 0 t) = nin y (i2b (W 5200 0 t)) := by
  have hi : inb (nI (17 * t + 16)) 600 := inb_nI (by omega) (by decide)
  have hcp := copy_M (i := 583) (j := 17 * t + 16) (by decide) (by omega) W
  rw [show nI 583 = (583 : Int32) from rfl] at hcp
  have u1 := mcp (i := 17 * t + 16) (UM_rfl W) hc
  have e0 := cM_0 (show cM (kM W (17 * t + 16) (cM W 583)) (17 * t + 16) = c by rw [u1.1, up_at])
  have u2 := e0' u1 (c.1 + (if y = 0 then i else 0))
  have u3 := e4' u2 0
  unfold ett
  rw [lt_def, pcc_M h80, hcp, bnd_some, lt_def, pcc_M ((UM_80 u1).trans h80), chk_t hi, lt_def, chk_t hi, lt_def, cl_nI (by omega), e0, lt_def, pcc_M ((UM_80 u2).trans h80), chk_t hi, lt_def, cl_nI (by omega), jn_def]
  have e80 := (UM_80 u3).trans h80
  have e52 : ∀ u, (sv (sv (kM W (17 * t + 16) (cM W 583)) 2400 0 (17 * t + 16) (c.1 + (if y = 0 then i else 0))) 2800 0 (17 * t + 16) 0) 5200 0 u = W 5200 0 u := fun u => u3.2 5200 0 u (by decide)
  generalize sv (sv (kM W (17 * t + 16) (cM W 583)) 2400 0 (17 * t + 16) (c.1 + (if y = 0 then i else 0))) 2800 0 (17 * t + 16) 0 = W3 at u3 e80 e52 ⊢
  have fin : ∀ b : Bool, b = nin y (i2b (W 5200 0 t)) → ∃ W', (chk (inb (W3 1080 0 0) 6) <| lt (sv W3 5200 0 (W3 1080 0 0).toNatClampNeg (b2i b)) fun V42 => some ((0 : Int32), V42)) = some (0, W') ∧ cM W' = up (cM W) (17 * t + 16) (tgt c (if y = 0 then i else 0)) ∧ agr [2400, 2500, 2600, 2700, 2800, 2900, 5200] W W' ∧ (∀ u, u ≠ t → W' 5200 0 u = W 5200 0 u) ∧ i2b (W' 5200 0 t) = nin y (i2b (W 5200 0 t)) := by
    intro b hb
    rw [e80, chk_t (inb_nI ht (by decide)), lt_def, cl_nI (by omega)]
    refine ⟨_, rfl, ?_, (u3.2.app (agr_sv _ _ _ _ _)).sub (by decide), fun u hu => ?_, ?_⟩
    · rw [cM_fr (agr_sv W3 5200 0 t _) (by decide)]; exact u3.1
    · rw [sv_ne (fun q => hu q.2.2)]; exact e52 u
    · rw [sv_at, i2b_b2i, hb]
  by_cases q2 : y = 2
  · rw [if_pos q2]
    exact fin false (by unfold nin; rw [if_pos q2])
  · rw [if_neg q2, jn_def]
    by_cases q3 : y = 3
    · rw [if_pos q3]
      exact fin true (by unfold nin; rw [if_neg q2, if_pos q3])
    · rw [if_neg q3, e80, chk_t (inb_nI ht (by decide)), cl_nI (by omega), e52]
      by_cases q4 : i2b (W 5200 0 t) = true
      · rw [if_pos q4]
        have f := fin true (by unfold nin; rw [if_neg q2, if_neg q3, q4])
        rw [e80, cl_nI (by omega)] at f
        exact f
      · rw [if_neg q4]
        have f := fin false (by unfold nin; rw [if_neg q2, if_neg q3, bF q4])
        rw [e80, cl_nI (by omega)] at f
        exact f
theorem gd_tgt {Y : HV} {l : List Ob} {c : Cp} {i : Int32} (h : gd Y l c) : gd Y l (tgt c i) := ⟨h.1, by show (0 : Int32) &&& 255 = 0; decide, fun q => ⟨fun q4 => absurd q4 (by show ¬ (0 : Int32) = 4; decide), (h.2.2 q).2⟩⟩
/-- the states behind the link -/
theorem lnk {kb T Tw t d a : Nat} {Y : HV} {l : List Ob} {V W : HV} {x : Int32} {c lk : Cp} (h : OK 1000 kb T Tw t Y l V W) (hx : W 1081 0 0 = x) (ed : fd x = nI d) (hd : d < 16) (ha : a < 16) (hc : cM W (17 * t + a) = c) (hl : lkc (cM W (17 * t + 16)) (i2b (W 5200 0 t)) = lk) :
  UC V (up (up (cC V) 582 c) (17 * t + d) lk) (f_X2_link kb t (17 * t + d) (kC V 582 (cC V (17 * t + a)))) ∧ ∃ W13, f_X12_link 0 (kM W 583 c) = some W13 ∧ UM W (up (up (cM W) 583 c) 582 lk) W13 ∧ ∃ W17, f_X12_comes 0 582 (fd x) W13 = some W17 ∧ UM W (if d = 0 then (up (up (cM W) 583 c) 582 lk) else up (up (up (cM W) 583 c) 582 lk) (17 * t + d) lk) W17 := by
  have h6 := OK_t6 h
  have hcC : cC V (17 * t + a) = c := (OK_cap h (by omega) (by omega)).trans hc
  have u1 := kC_U V 582 c
  have u2 := link_C (kb := kb) (t := t) (i := 17 * t + d) (V := kC V 582 c) (by omega)
  have e1 : cC (kC V 582 c) (17 * t + 16) = cM W (17 * t + 16) := by rw [u1.1, up_ne (by omega)]; exact OK_cap h (by decide) (by omega)
  rw [e1, show (kC V 582 c) 710 t 0 = V 710 t 0 from u1.2 710 t 0 (by decide), OK_on h, hl, u1.1] at u2
  rw [hcC]
  refine ⟨u1.trans u2, ?_⟩
  have m1 := kM_U W 583 c
  obtain ⟨W13, q1, q2⟩ := link_M ((UM_80 m1).trans h.2.2.2.2.1) h6
  have e2 : cM (kM W 583 c) (17 * t + 16) = cM W (17 * t + 16) := by rw [m1.1, up_ne (by omega)]
  rw [e2, show (kM W 583 c) 5200 0 t = W 5200 0 t from m1.2 5200 0 t (by decide), hl, m1.1] at q2
  have m2 := m1.trans q2
  have cm := comes_M (t := t) (d := d) (i := 582) ((UM_80 m2).trans h.2.2.2.2.1) h6 hd (by decide)
  refine ⟨W13, q1, m2, _, by rw [ed]; exact cm, ?_⟩
  have e3 : cM W13 582 = lk := by rw [m2.1, up_at]
  rw [e3]
  exact if_UM2 m2 lk
def RJ (kb T Tw t : Nat) (Y : HV) (l : List Ob) (V : HV) (c : Int32) (V' W' : HV) : Prop := (c = 0 → ∃ l', OK (17 * t) kb T T t Y l' V' W') ∧ (¬ c = 0 → OK 1000 kb T Tw t Y l V W' ∧ ∃ f, UC V f V' ∧ ∀ i, i < 582 → ¬ (17 * t ≤ i ∧ i < 17 * t + 17) → f i = cC V i)
theorem Tm_up {T Tw Tz : Nat} {V W : HV} (h : Tm T Tw V W) (h1 : Tw ≤ Tz) (h2 : Tz < 2147483648) : Tm T Tz V W := by
  obtain ⟨a1, a2, a3, a4, o, a5, a6⟩ := h
  have hle : nI Tw ≤ nI Tz := nI_le h1 h2
  exact ⟨a1, a2, a3, fun t ht q => ⟨Int32.le_trans (a4 t ht q).1 hle, (a4 t ht q).2⟩, o, by omega, a6⟩
theorem OK_up {x kb T Tw Tz t : Nat} {Y : HV} {l : List Ob} {V W : HV} (h : OK x kb T Tw t Y l V W) (h1 : Tw ≤ Tz) (h2 : Tz < 2147483648) : OK x kb T Tz t Y l V W := ⟨h.1, Tm_up h.2.1 h1 h2, h.2.2⟩
theorem RES_RJ {kb T Tw t : Nat} {Y : HV} {l : List Ob} {V V' W' : HV} {c : Int32} (h1 : Tw ≤ T) (h2 : T < 2147483648) (h : RES kb T Tw t Y l V c V' W') : RJ kb T Tw t Y l V c V' W' := ⟨fun q => ⟨l, OK_up (h.1 q) h1 h2⟩, fun q => ⟨(h.2 q).2, cC V, by rw [(h.2 q).1]; exact UC_rfl V, fun _ _ _ => rfl⟩⟩
/-- scratch alone -/
theorem OK_scr {kb T Tw t : Nat} {Y : HV} {l : List Ob} {V W W' : HV} {g : Nat → Cp} (h : OK 1000 kb T Tw t Y l V W) (hW : UM W g W') (hg : ∀ i, i < 582 → g i = cM W i) : OK 1000 kb T Tw t Y l V W' := by
  have h6 := OK_t6 h
  refine OK_reg h (UC_rfl V) hW (fun i hi _ => ⟨rfl, hg i hi⟩) (fun k hk => ?_) (by rw [hg _ (by omega)]; exact OK_0 h) (Or.inl rfl)
  rw [hg _ (by omega)]
  exact ⟨fun q => OK_cap h hk q, h.2.2.1 k hk⟩
theorem j_ent {kb T Tw t d : Nat} {Y : HV} {l : List Ob} {V V7 W W17 : HV} {i : Int32} {c lk : Cp} (h : OK 1000 kb T Tw t Y l V W) (hd : d < 16) (hcg : gd Y (lv l) c) (hlg : gd Y (lv l) lk) (hi : ¬ c.2.2.2.2.1 = 0 → i = 0) (hV : UC V (up (up (cC V) 582 c) (17 * t + d) lk) V7) (hW : UM W (if d = 0 then (up (up (cM W) 583 c) 582 lk) else up (up (up (cM W) 583 c) 582 lk) (17 * t + d) lk) W17) : ∃ W', ett c.2.2.2.2.1 i W17 = some (0, W') ∧ OK (17 * t) kb T Tw t Y l (f_X2_enter kb t 582 i (sv V7 0 (17 * t + 16) 0 (V7 0 (17 * t + 16) 0 + 4))) W' := by
  have h6 := OK_t6 h
  have u8 := hV.trans (s0_U V7 (17 * t + 16) (V7 0 (17 * t + 16) 0 + 4))
  rw [hV.1] at u8
  generalize sv V7 0 (17 * t + 16) 0 (V7 0 (17 * t + 16) 0 + 4) = V8 at u8 ⊢
  have c582' : cC V8 582 = c := by rw [u8.1, up_ne (by omega), up_ne (by omega), up_at]
  have c583 : cM W17 583 = c := by
    rw [hW.1]
    by_cases d0 : d = 0
    · rw [if_pos d0, up_ne (by omega), up_at]
    · rw [if_neg d0, up_ne (by omega), up_ne (by omega), up_at]
  obtain ⟨a1, a2, a3, a4⟩ := ent_C (kb := kb) (t := t) (i := i) h6 c582'
  obtain ⟨W', b1, b2, b3, b4, b5⟩ := ent_M (i := i) (y := c.2.2.2.2.1) ((UM_80 hW).trans h.2.2.2.2.1) h6 c583
  refine ⟨W', b1, ?_⟩
  have ei : (if c.2.2.2.2.1 = 0 then i else 0) = i := by
    by_cases q : c.2.2.2.2.1 = 0
    · rw [if_pos q]
    · rw [if_neg q]; exact (hi q).symm
  rw [ei] at b2
  have gW : ∀ j, j < 582 → j ≠ 17 * t + 16 → cM W' j = (if d = 0 then cM W else up (cM W) (17 * t + d) lk) j := by
    intro j hj hj2
    rw [b2, up_ne hj2, hW.1]
    by_cases d0 : d = 0
    · rw [if_pos d0, if_pos d0, up_ne (by omega), up_ne (by omega)]
    · rw [if_neg d0, if_neg d0]
      by_cases e : j = 17 * t + d
      · rw [e, up_at, up_at]
      · rw [up_ne e, up_ne e, up_ne (by omega), up_ne (by omega)]
  have gV : ∀ j, j < 582 → j ≠ 17 * t + 16 → cC (f_X2_enter kb t 582 i V8) j = up (cC V) (17 * t + d) lk j := by
    intro j hj hj2
    rw [a1, up_ne hj2, u8.1, up_ne hj2]
    by_cases e : j = 17 * t + d
    · rw [e, up_at, up_at]
    · rw [up_ne e, up_ne e, up_ne (by omega)]
  refine OK_regs h ((u8.2.app a2).sub (by decide)) ((hW.2.app b3).sub (by decide)) (fun j hj hn => ?_) (fun k hk => ?_) ?_ (Or.inr (Or.inr (by decide))) (fun u hu => ?_) (fun u hu => ?_) ?_
  · rw [gV j hj (by omega), gW j hj (by omega), up_ne (by omega)]
    refine ⟨rfl, ?_⟩
    by_cases d0 : d = 0
    · rw [if_pos d0]
    · rw [if_neg d0, up_ne (by omega)]
  · by_cases k16 : k = 16
    · subst k16
      rw [a1, b2, up_at, up_at]
      exact ⟨fun _ => rfl, gd_tgt hcg⟩
    · rw [gV _ (by omega) (by omega), gW _ (by omega) (by omega)]
      by_cases e : k = d
      · by_cases d0 : d = 0
        · rw [if_pos d0]
          exact ⟨fun q => absurd (by omega) q, h.2.2.1 k hk⟩
        · rw [if_neg d0, e, up_at, up_at]
          exact ⟨fun _ => rfl, hlg⟩
      · rw [up_ne (by omega)]
        by_cases d0 : d = 0
        · rw [if_pos d0]
          exact ⟨fun _ => OK_cap h hk (by omega), h.2.2.1 k hk⟩
        · rw [if_neg d0, up_ne (by omega)]
          exact ⟨fun _ => OK_cap h hk (by omega), h.2.2.1 k hk⟩
  · rw [gW _ (by omega) (by omega)]
    by_cases d0 : d = 0
    · rw [if_pos d0]; exact OK_0 h
    · rw [if_neg d0, up_ne (by omega)]; exact OK_0 h
  · rw [a3 u hu]; exact u8.2 710 u 0 (by decide)
  · rw [b4 u hu]; exact hW.2 5200 0 u (by decide)
  · rw [a4, b5, u8.2 710 t 0 (by decide), hW.2 5200 0 t (by decide), OK_on h]
