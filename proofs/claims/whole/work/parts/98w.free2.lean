/-! an object is freed -/
theorem lk_ex {g : Nat} : ∀ (l : List Ob), ¬ (lk l g).2 = 0 → ∃ o, o ∈ l ∧ o.1 = g ∧ lk l g = o.2
  | [], h => absurd rfl h
  | o :: l, h => by
    unfold lk at h ⊢
    by_cases q : g = o.1
    · rw [if_pos q]
      exact ⟨o, List.mem_cons_self .., q.symm, rfl⟩
    · rw [if_neg q] at h ⊢
      obtain ⟨o', h1, h2, h3⟩ := lk_ex l h
      exact ⟨o', List.mem_cons_of_mem _ h1, h2, h3⟩
theorem lk_u3 {hi : Nat} {g : Nat} : ∀ (l : List Ob) (lo : Nat), srt hi lo l → (lk l g).2 ≤ 3
  | [], _, _ => Nat.zero_le _
  | o :: l, lo, h => by
    unfold lk
    by_cases q : g = o.1
    · rw [if_pos q]
      rcases h.2.2.1 with z | z | z <;> rw [z] <;> decide
    · rw [if_neg q]
      exact lk_u3 l _ h.2.2.2
theorem srt_pre {hi : Nat} {o : Ob} {b : List Ob} : ∀ (a : List Ob) (lo : Nat), srt hi lo (a ++ o :: b) → ∀ x, x ∈ a → x.1 < o.1
  | [], _, _, x, hx => by cases hx
  | c :: a, lo, h, x, hx => by
    have ho : o ∈ a ++ o :: b := List.mem_append_right _ (List.mem_cons_self ..)
    have := srt_ge h.2.2.2 ho
    have := h.2.1
    rcases List.mem_cons.mp hx with e | hx
    · rw [e]; omega
    · exact srt_pre a _ h.2.2.2 x hx
theorem isO_no {kb : Nat} {l : List Ob} {h : Nat} {c : Cp} {V : HV} (hkb : kb ≤ 32) (hs : srt (64 * kb) h l) (h2 : V 302 0 0 = nI h) (hz : ∀ g, g < 64 * kb → V 2500 0 g = nI (lk l g).1 ∧ V 2600 0 g = nI (lk l g).2) (hno : ∀ o, o ∈ l → ¬ fo c o) : f_X4_isObject kb 0 c.2.1 c.2.2.1 V = some false := by
  unfold f_X4_isObject
  rw [lt_def]
  by_cases q0 : c.2.1 < 0
  · rw [if_pos q0]
  rw [if_neg q0]
  obtain ⟨k, hk, e⟩ := nI_of q0
  rw [e]
  have r : nI k - nI k / 16 * 16 = nI (k % 16) := pk_rem (d := 16) hk (by decide) (by decide)
  rw [r]
  by_cases q1 : nI (k % 16) = 0
  · rw [if_pos q1, lt_def, dv16 hk]
    have k0 : k % 16 = 0 := nI_inj (b := 0) (by omega) (by decide) q1
    have hle := srt_le hs
    unfold f_X4_has
    rw [h2, ofNat_nI]
    by_cases q2 : nI (k / 16) < nI h
    · rw [if_pos q2, if_neg (show ¬ false = true by decide)]
    rw [if_neg q2]
    by_cases q3 : nI (64 * kb) ≤ nI (k / 16)
    · rw [if_pos q3, if_neg (show ¬ false = true by decide)]
    rw [if_neg q3, if_pos rfl]
    have hg : k / 16 < 64 * kb := Nat.not_le.mp fun z => q3 (nI_le z (by omega))
    rw [chk_t (inb_nI hg (by omega)), cl_nI (by omega), (hz _ hg).1, (hz _ hg).2]
    by_cases q4 : nI (lk l (k / 16)).2 = 1
    · rw [if_pos q4, chk_t (inb_nI hg (by omega))]
      have h3 := lk_u3 (g := k / 16) l h hs
      have u1 : (lk l (k / 16)).2 = 1 := nI_inj (b := 1) (by omega) (by decide) q4
      obtain ⟨o, ho, e1, e2⟩ := lk_ex (g := k / 16) l (by omega)
      have hm := srt_mem hs ho
      rw [e2]
      rw [e2] at u1
      by_cases q5 : c.2.2.1 = nI k + nI o.2.1 * 16
      · exfalso
        refine hno o ho ⟨u1, ?_, ?_⟩
        · rw [e]; congr 1; omega
        · rw [q5, show (16 : Int32) = nI 16 from rfl, pk_mul, nI_add]; congr 1; omega
      · rw [if_neg q5]
    · rw [if_neg q4]
  · rw [if_neg q1]
theorem isO_yes {kb : Nat} {l : List Ob} {h : Nat} {c : Cp} {o : Ob} {V : HV} (hkb : kb ≤ 32) (hs : srt (64 * kb) h l) (h2 : V 302 0 0 = nI h) (hz : ∀ g, g < 64 * kb → V 2500 0 g = nI (lk l g).1 ∧ V 2600 0 g = nI (lk l g).2) (ho : o ∈ l) (hf : fo c o) : f_X4_isObject kb 0 c.2.1 c.2.2.1 V = some true ∧ f_X4_has kb 0 (nI o.1) V = true := by
  have hm := srt_mem hs ho
  have hl := lk_mem hs ho
  obtain ⟨f1, f2, f3⟩ := hf
  have hh : f_X4_has kb 0 (nI o.1) V = true := by
    unfold f_X4_has
    rw [h2, ofNat_nI, if_neg (nI_nlt hm.1 (by omega)), if_neg (fun q => by have := (nI_leI (by omega) (by omega)).mp q; omega)]
  refine ⟨?_, hh⟩
  have r : nI (16 * o.1) - nI (16 * o.1) / 16 * 16 = nI (16 * o.1 % 16) := pk_rem (d := 16) (by omega) (by decide) (by decide)
  have z := hz o.1 (by omega)
  rw [hl, f1] at z
  unfold f_X4_isObject
  rw [lt_def, ← f2, ← f3, if_neg (nI_pos (by omega)), r, if_pos (by rw [show 16 * o.1 % 16 = 0 by omega]; rfl), lt_def, dv16 (by omega), show 16 * o.1 / 16 = o.1 by omega, hh, if_pos rfl, chk_t (inb_nI (by omega) (by omega)), cl_nI (by omega), z.2, if_pos (show nI 1 = 1 from rfl), chk_t (inb_nI (by omega) (by omega)), z.1, show (16 : Int32) = nI 16 from rfl, pk_mul, nI_add, if_pos (by congr 1; omega)]
theorem get_use {u : Nat} {o : Ob} {a b : List Ob} (j : Nat) : (a ++ (o.1, o.2.1, u) :: b)[j]? = if j = a.length then some (o.1, o.2.1, u) else (a ++ o :: b)[j]? := by
  by_cases q : j < a.length
  · rw [if_neg (by omega), List.getElem?_append_left q, List.getElem?_append_left q]
  · rw [List.getElem?_append_right (by omega), List.getElem?_append_right (by omega)]
    by_cases e : j = a.length
    · rw [if_pos e, e, Nat.sub_self]; rfl
    · rw [if_neg e, show j - a.length = (j - a.length - 1) + 1 by omega, List.getElem?_cons_succ, List.getElem?_cons_succ]
theorem op_free {kb T Tw t : Nat} {Y : HV} {l : List Ob} {V W : HV} {c : Cp} (hT1 : Tw ≤ T) (hT2 : T < 1073741824) (h : QS kb T Tw t Y l V W) (hc : cC V (17 * t + 10) = c) (hc' : cM W 584 = c) : ∃ r s V1 W1 l', f_X7_release kb 0 (17 * t + 10) V = some (r, V1) ∧ f_X12_free 0 584 W = some (s, W1) ∧ (if s = true then (0) else (-1) : Int32) = r ∧ QS kb T T t Y l' V1 W1 := by
  have h6 := QS_t6 h
  obtain ⟨hH, hkb, hhp, h10, h54, hmk⟩ := QS_heap h
  have hQ := QS_up h hT1 (by omega)
  obtain ⟨hs, ⟨b1, b2, b3, b4, b5⟩, hM, hS, hRv⟩ := hH
  have hlen := srt_len l _ hs
  have i584 : inb (584 : Int32) 600 := inb_nI (k := 584) (by decide) (by decide)
  have c584 : (584 : Int32).toNatClampNeg = 584 := cl_nI (k := 584) (by decide)
  have e5 : i2b (V 5 (17 * t + 10) 0) = c.2.2.2.2.2 := congrArg (fun c : Cp => c.2.2.2.2.2) hc
  have e4 : V 4 (17 * t + 10) 0 = c.2.2.2.2.1 := congrArg (fun c : Cp => c.2.2.2.2.1) hc
  have e3 : V 3 (17 * t + 10) 0 = c.2.2.2.1 := congrArg (fun c : Cp => c.2.2.2.1) hc
  have e2 : V 2 (17 * t + 10) 0 = c.2.2.1 := congrArg (fun c : Cp => c.2.2.1) hc
  have e1 : V 1 (17 * t + 10) 0 = c.2.1 := congrArg (fun c : Cp => c.2.1) hc
  have bb : (c.2.2.2.1 &&& 2 = 2) ↔ ¬ (c.2.2.2.1 &&& 2 = 0) := bit_iff (k := 1) (by decide) (by decide)
  have no : ∃ r s V1 W1 l', some ((-1 : Int32), V) = some (r, V1) ∧ some (false, W) = some (s, W1) ∧ (if s = true then (0) else (-1) : Int32) = r ∧ QS kb T T t Y l' V1 W1 := ⟨-1, false, V, W, l, rfl, rfl, rfl, hQ⟩
  unfold f_X7_release f_X12_free f_X0_isPlainWith
  rw [lt_def, lt_def, e5, e4, e3, e2, e1, chk_t i584, c584, cM_5 hc', cM_4 hc', cM_3 hc']
  by_cases q1 : c.2.2.2.2.2 = true
  · rw [if_pos q1, if_pos q1, chk_t i584]
    by_cases q2 : c.2.2.2.2.1 = 0
    · rw [if_pos q2, if_pos q2, chk_t i584]
      by_cases q3 : c.2.2.2.1 &&& 2 = 0
      · rw [if_neg (fun z => bb.mp z q3), if_neg (show ¬ false = true by decide), if_pos q3]
        exact no
      · rw [if_pos (bb.mpr q3), if_pos rfl, if_neg q3, jn_def]
        have hA : ∀ i o, l[i]? = some o → W 7600 0 (0 + i) = nI (16 * o.1) ∧ W 7700 0 (0 + i) = nI (16 * o.2.1) ∧ i2b (W 7800 0 (0 + i)) = decide (o.2.2 ≠ 1) := fun i o hi => by
          rw [Nat.zero_add]
          exact ⟨(hM.2 i o hi).1, (hM.2 i o hi).2.1, (hM.2 i o hi).2.2.1⟩
        by_cases hex : ∃ o, o ∈ l ∧ fo c o
        · obtain ⟨o, ho, hf⟩ := hex
          obtain ⟨z1, z2⟩ := isO_yes hkb hs b1 b2 ho hf
          have hmo := srt_mem hs ho
          have hlo := lk_mem hs ho
          obtain ⟨f1, f2, f3⟩ := id hf
          obtain ⟨a, b, rfl⟩ := List.append_of_mem ho
          have hpre := srt_pre a _ hs
          have hfs := fr_some (x1 := 584) (c := c) (b := b) (W := W) (K := fun v9 =>
            chk (inb v9 2049) <|
            lt (sv W 7800 0 (v9).toNatClampNeg (b2i true)) fun V11 =>
            chk (inb v9 2049) <|
            lt (sv V11 7900 0 (v9).toNatClampNeg (b2i false)) fun V13 =>
            chk (inb (584 : Int32) 600) <|
            lt (V13 2500 0 584) fun v15 =>
            jn (fun V18 =>
            some (true, V18)) fun k16 =>
            f_X12_free_L108 584 k16 FU v15 V13) (by decide) hc' hf a 0 FU (fun x hx hx2 => by
              have := hpre x hx
              have hmx := srt_mem hs (List.mem_append_left _ hx)
              have : 16 * x.1 = 16 * o.1 := nI_inj (by omega) (by omega) (hx2.2.1.trans f2.symm)
              omega) hA (by rw [Nat.zero_add]; exact hM.1) (by omega) (FU_gt (by rw [List.length_append] at hlen; omega))
          have hal : a.length < 2048 := by
            rw [List.length_append, List.length_cons] at hlen
            omega
          rw [Nat.zero_add] at hfs
          rw [z1, bnd_some, if_pos rfl, lt_def, ← f2, dv16 (by omega), show 16 * o.1 / 16 = o.1 by omega]
          unfold f_X4_hold
          rw [lt_def, z2, if_pos rfl, chk_t (inb_nI (by omega) (by omega)), lt_def, lt_def, chk_t (inb_nI (by omega) (by omega)), lt_def, chk_t (inb_nI (by omega) (by omega)), lt_def, bnd_some, cl_nI (by omega)]
          have z25 : V 2500 0 o.1 = nI o.2.1 := by rw [(b2 o.1 (by omega)).1, hlo]
          have y1 : (sv (sv V 2600 0 o.1 2) 303 0 0 ((sv V 2600 0 o.1 2) 303 0 0 - 1)) 2500 0 o.1 = nI o.2.1 := by rw [sv_col (by decide), sv_col (by decide)]; exact z25
          have y2 : ∀ z, (sv (sv (sv V 2600 0 o.1 2) 303 0 0 ((sv V 2600 0 o.1 2) 303 0 0 - 1)) 304 0 0 z) 2500 0 o.1 = nI o.2.1 := fun z => by rw [sv_col (by decide)]; exact y1
          rw [y1, y2]
          generalize hV9 : sv (sv (sv (sv V 2600 0 o.1 2) 303 0 0 ((sv V 2600 0 o.1 2) 303 0 0 - 1)) 304 0 0 ((sv (sv V 2600 0 o.1 2) 303 0 0 ((sv V 2600 0 o.1 2) 303 0 0 - 1)) 304 0 0 - nI o.2.1)) 305 0 0 ((sv (sv (sv V 2600 0 o.1 2) 303 0 0 ((sv V 2600 0 o.1 2) 303 0 0 - 1)) 304 0 0 ((sv (sv V 2600 0 o.1 2) 303 0 0 ((sv V 2600 0 o.1 2) 303 0 0 - 1)) 304 0 0 - nI o.2.1)) 305 0 0 + nI o.2.1) = V9
          have a9 : agr [303, 304, 305, 2600] V V9 := by rw [← hV9]; exact ((((agr_sv _ _ _ _ _).app (agr_sv _ _ _ _ _)).app (agr_sv _ _ _ _ _)).app (agr_sv _ _ _ _ _)).sub (by decide)
          have v303 : V9 303 0 0 = V 303 0 0 - 1 := by rw [← hV9, sv_col (by decide), sv_col (by decide), sv_at, sv_col (by decide)]
          have v304 : V9 304 0 0 = V 304 0 0 - nI o.2.1 := by rw [← hV9, sv_col (by decide), sv_at, sv_col (by decide), sv_col (by decide)]
          have v305 : V9 305 0 0 = V 305 0 0 + nI o.2.1 := by rw [← hV9, sv_at, sv_col (by decide), sv_col (by decide), sv_col (by decide)]
          have v26 : ∀ g, V9 2600 0 g = if g = o.1 then 2 else V 2600 0 g := fun g => by
            rw [← hV9, sv_col (by decide), sv_col (by decide), sv_col (by decide)]
            by_cases z : g = o.1
            · rw [if_pos z, z, sv_at]
            · rw [if_neg z, sv_ne (fun q => z q.2.2)]
          rw [a9 2 _ 0 (by decide), a9 1 _ 0 (by decide), e2, e1, ← f3, ← f2, nI_sub (by omega), show 16 * (o.1 + o.2.1) - 16 * o.1 = 16 * o.2.1 by omega, dv16 (by omega), show 16 * o.2.1 / 16 = o.2.1 by omega]
          obtain ⟨V1, r1, r2, r3⟩ := revoke_C (on := true) (g := o.1) (n := o.2.1) (V := V9) (T := fun g => i2b (W 2200 0 g)) (R := fun g => i2b (W 2300 0 g)) hkb hmo.2.2.2 (fun q hq => by rw [a9 2400 0 q (by decide)]; exact hmk q hq)
          rw [r1, bnd_some]
          have s25 : (sv (sv W 7800 0 a.length (b2i true)) 7900 0 a.length (b2i false)) 2500 0 584 = nI (16 * o.1) := by rw [sv_col (by decide), sv_col (by decide), cM_1 hc']; exact f2.symm
          have s26 : (sv (sv W 7800 0 a.length (b2i true)) 7900 0 a.length (b2i false)) 2600 0 584 = nI (16 * (o.1 + o.2.1)) := by rw [sv_col (by decide), sv_col (by decide), cM_2 hc']; exact f3.symm
          obtain ⟨W1, x1, x2, x3⟩ := fr_L8 (x1 := 584) (g := o.1) (n := o.2.1) (K := fun V18 => some (true, V18)) (by decide) (by omega) o.2.1 0 FU (sv (sv W 7800 0 a.length (b2i true)) 7900 0 a.length (b2i false)) (by omega) (FU_gt (by omega)) s26
          have hfs2 : f_X12_free_L33 0 584 W (fun v9 =>
            chk (inb v9 2049) <|
            lt (sv W 7800 0 (v9).toNatClampNeg (b2i true)) fun V11 =>
            chk (inb v9 2049) <|
            lt (sv V11 7900 0 (v9).toNatClampNeg (b2i false)) fun V13 =>
            chk (inb (584 : Int32) 600) <|
            lt (V13 2500 0 584) fun v15 =>
            jn (fun V18 =>
            some (true, V18)) fun k16 =>
            f_X12_free_L108 584 k16 FU v15 V13) FU 0 = some (true, W1) := by
            refine Eq.trans hfs ?_
            rw [chk_t (inb_nI (by omega) (by decide)), lt_def, chk_t (inb_nI (by omega) (by decide)), lt_def, cl_nI (by omega), chk_t i584, lt_def, s25, jn_def]
            exact x1
          refine ⟨0, true, V1, W1, a ++ (o.1, o.2.1, 2) :: b, rfl, hfs2, rfl, ?_⟩
          have aV1 : agr [303, 304, 305, 2400, 2600] V V1 := (a9.app r2).sub (by decide)
          have aW1 : agr [2300, 7800, 7900] W W1 := (((agr_sv _ _ _ _ _).app (agr_sv _ _ _ _ _)).app x2).sub (by decide)
          have d1 : ∀ j, i2b (W1 7800 0 j) = if j = a.length then true else i2b (W 7800 0 j) := fun j => by
            rw [x2 7800 0 j (by decide), sv_col (by decide)]
            by_cases z : j = a.length
            · rw [if_pos z, z, sv_at, i2b_b2i]
            · rw [if_neg z, sv_ne (fun q => z q.2.2)]
          have d2 : ∀ j, i2b (W1 7900 0 j) = if j = a.length then false else i2b (W 7900 0 j) := fun j => by
            rw [x2 7900 0 j (by decide)]
            by_cases z : j = a.length
            · rw [if_pos z, z, sv_at, i2b_b2i]
            · rw [if_neg z, sv_ne (fun q => z q.2.2), sv_col (by decide)]
          have hrv : ∀ g, rvk (a ++ (o.1, o.2.1, 2) :: b) g = if o.1 ≤ g ∧ g < o.1 + o.2.1 then true else rvk (a ++ o :: b) g := by
            intro g
            rw [rvk_app, rvk_app]
            have k1 : rvk ((o.1, o.2.1, 2) :: b) g = (decide (o.1 ≤ g ∧ g < o.1 + o.2.1) || rvk b g) := by
              unfold rvk
              rw [List.any_cons]
              congr 1
              apply decide_eq_decide.mpr
              constructor
              · exact fun z => z.2
              · exact fun z => ⟨show (2 : Nat) ≠ 1 by decide, z⟩
            have k2 : rvk (o :: b) g = rvk b g := by
              unfold rvk
              rw [List.any_cons, decide_eq_false (fun z => z.1 f1), Bool.false_or]
            rw [k1, k2]
            by_cases z : o.1 ≤ g ∧ g < o.1 + o.2.1
            · rw [if_pos z, decide_eq_true z, Bool.true_or, Bool.or_true]
            · rw [if_neg z, decide_eq_false z, Bool.false_or]
          obtain ⟨n1, n2, n3⟩ := cnt_app a ((o.1, o.2.1, 2) :: b)
          obtain ⟨n4, n5, n6⟩ := cnt_app a (o :: b)
          have n7 : cnt (o :: b) = 1 + cnt b ∧ gvn (o :: b) = o.2.1 + gvn b ∧ hld (o :: b) = hld b := by
            refine ⟨?_, ?_, ?_⟩
            · show (if o.2.2 = 1 then 1 else 0) + cnt b = _; rw [if_pos f1]
            · show (if o.2.2 = 1 then o.2.1 else 0) + gvn b = _; rw [if_pos f1]
            · show (if o.2.2 = 1 then 0 else o.2.1) + hld b = _; rw [if_pos f1, Nat.zero_add]
          have n8 : cnt ((o.1, o.2.1, 2) :: b) = cnt b ∧ gvn ((o.1, o.2.1, 2) :: b) = gvn b ∧ hld ((o.1, o.2.1, 2) :: b) = o.2.1 + hld b := by
            refine ⟨?_, ?_, ?_⟩
            · show (if (2 : Nat) = 1 then 1 else 0) + cnt b = _; rw [if_neg (by decide), Nat.zero_add]
            · show (if (2 : Nat) = 1 then o.2.1 else 0) + gvn b = _; rw [if_neg (by decide), Nat.zero_add]
            · show (if (2 : Nat) = 1 then 0 else o.2.1) + hld b = _; rw [if_neg (by decide)]
          refine QS_colL h aV1 aW1 (by decide) (by decide) (fun V0 hu p1 p2 p4 => ?_)
          have aV0 : agr [303, 304, 305, 2400, 2600] V0 (mrg V0 V1) := mrg_agr (f := cC V) ⟨rfl, hu⟩ aV1
          obtain ⟨h1, h2, h3, h4, h5, h6', h7, h8, h9, h10', h11, h12, h13, h14⟩ := p1
          refine ⟨⟨h1, LY_fr aW1 (by decide) h2, Rs_fr aV0 aW1 (by decide) (by decide) h3, Rl_fr aV0 aW1 (by decide) (by decide) h4, Rc_fr aV0 aW1 (by decide) (by decide) h5, ⟨fun j hj => ?_, fun g hg => ?_⟩, Ri_fr aV0 aW1 (by decide) (by decide) h7, In_fr aW1 (by decide) h8, ⟨srt_use (Or.inr (Or.inl rfl)) a _ hs, ⟨?_, fun g hg => ?_, ?_, ?_, ?_⟩, ⟨?_, fun j o' hj => ?_⟩, ?_, fun g hg => ?_⟩, fun i hi => ?_, fun q hq => gd_map map_use (Mgd_fr aW1 (by decide) h11 q hq), Frm_fr aV0 aW1 (by decide) (by decide) h12, Thr_fr aW1 (by decide) h13, Rt_fr aV0 aW1 (by decide) (by decide) h14⟩, Tm_fr aV0 aW1 (by decide) (by decide) (Tm_up p2 hT1 (by omega)), fun s z1 z2 q hq => gd_map (map_sw (by decide)) (Jm_fr aW1 (by decide) p4 s z1 z2 q hq)⟩
          · rw [aV0 2300 0 j (by decide), aW1 2100 0 j (by decide)]; exact h6'.1 j hj
          · rw [mrg_ge (by decide), r3 g hg, aW1 2200 0 g (by decide), x3 g, sv_col (by decide), sv_col (by decide), Nat.add_zero]
            rfl
          · rw [aV0 302 0 0 (by decide), hu 302 0 0 (by decide) |>.symm]; exact b1
          · rw [lk_use a _ hs, mrg_ge (show ¬ 2500 < 6 by decide), mrg_ge (show ¬ 2600 < 6 by decide), aV1 2500 0 g (by decide), r2 2600 0 g (by decide), v26]
            by_cases z : g = o.1
            · rw [if_pos z, if_pos z, z]
              exact ⟨z25, rfl⟩
            · rw [if_neg z, if_neg z]; exact b2 g hg
          · rw [mrg_ge (by decide), r2 303 0 0 (by decide), v303, b3, n1, n8.1, n4, n7.1, show (1 : Int32) = nI 1 from rfl, nI_sub (by omega)]; congr 1; omega
          · rw [mrg_ge (by decide), r2 304 0 0 (by decide), v304, b4, n2, n8.2.1, n5, n7.2.1, nI_sub (by omega)]; congr 1; omega
          · rw [mrg_ge (by decide), r2 305 0 0 (by decide), v305, b5, n3, n8.2.2, n6, n7.2.2, nI_add]; congr 1; omega
          · rw [aW1 1055 0 0 (by decide), hM.1, List.length_append, List.length_append, List.length_cons, List.length_cons]
          · rw [get_use] at hj
            rw [aW1 7600 0 j (by decide), aW1 7700 0 j (by decide), d1, d2]
            have hla : (a ++ o :: b)[a.length]? = some o := by rw [List.getElem?_append_right (Nat.le_refl _), Nat.sub_self]; rfl
            by_cases z : j = a.length
            · rw [if_pos z] at hj
              rw [if_pos z, if_pos z, ← Option.some.inj hj, z]
              obtain ⟨y1, y2, y3, y4⟩ := hM.2 a.length o hla
              exact ⟨y1, y2, rfl, rfl⟩
            · rw [if_neg z] at hj
              rw [if_neg z, if_neg z]
              exact hM.2 j o' hj
          · unfold HpS at hS ⊢
            rw [mrg_ge (show ¬ 307 < 6 by decide), mrg_ge (show ¬ 306 < 6 by decide), mrg_ge (show ¬ 308 < 6 by decide), aV1 307 0 0 (by decide), aV1 306 0 0 (by decide), aV1 308 0 0 (by decide), aW1 1061 0 0 (by decide), aW1 1062 0 0 (by decide), aW1 1060 0 0 (by decide)]
            exact hS
          · rw [x3 g, sv_col (by decide), sv_col (by decide), Nat.add_zero, hrv]
            by_cases z : o.1 ≤ g ∧ g < o.1 + o.2.1
            · rw [if_pos z, if_pos z]
            · rw [if_neg z, if_neg z]; exact hRv g hg
          · have := Cps_fr aV0 aW1 (by decide) (by decide) h10' i hi
            exact ⟨this.1, gd_map map_use this.2.1, this.2.2⟩
        · have hno : ∀ o, o ∈ l → ¬ fo c o := fun o ho hf => hex ⟨o, ho, hf⟩
          have hfn := fr_none (x1 := 584) (c := c) (W := W) (K := fun v9 =>
            chk (inb v9 2049) <|
            lt (sv W 7800 0 (v9).toNatClampNeg (b2i true)) fun V11 =>
            chk (inb v9 2049) <|
            lt (sv V11 7900 0 (v9).toNatClampNeg (b2i false)) fun V13 =>
            chk (inb (584 : Int32) 600) <|
            lt (V13 2500 0 584) fun v15 =>
            jn (fun V18 =>
            some (true, V18)) fun k16 =>
            f_X12_free_L108 584 k16 FU v15 V13) (by decide) hc' l 0 FU hno hA (by rw [Nat.zero_add]; exact hM.1) (by omega) (FU_gt (by omega))
          rw [isO_no hkb hs b1 b2 hno, bnd_some, if_neg (show ¬ false = true by decide)]
          obtain ⟨r, s, V1, W1, l', y1, y2, y3, y4⟩ := no
          exact ⟨r, s, V1, W1, l', y1, hfn.trans y2, y3, y4⟩
    · rw [if_neg q2, if_neg q2, if_neg (show ¬ false = true by decide)]
      exact no
  · rw [if_neg q1, if_neg q1, if_neg (show ¬ false = true by decide)]
    exact no
