/-! boot -/
theorem cp_L {n : Nat} (hn : n ≤ 5000) : ∀ (r k f : Nat) (W : HV), k + r = n → r < f → ∃ W', (∀ K : HV → Option (Int32 × HV), f_X12_boot_L16 (nI n) K f (nI k) W = K W') ∧ agr [3200] W W' ∧ (∀ j, j < k → W' 3200 0 j = W 3200 0 j) ∧ (∀ j, k ≤ j → j < n → W' 3200 0 j = (W 3000 0 j).toInt8.toInt32)
  | _, _, 0, _, _, hf => absurd hf (by omega)
  | 0, k, f + 1, W, hk, _ => by
    refine ⟨W, fun K => ?_, (agr_rfl W).sub (by decide), fun _ _ => rfl, fun j h1 h2 => by omega⟩
    unfold f_X12_boot_L16
    rw [if_pos (nI_le (by omega) (by omega))]
  | r + 1, k, f + 1, W, hk, hf => by
    have ik : inb (nI k) 5000 := inb_nI (by omega) (by decide)
    obtain ⟨W', x1, x2, x3, x4⟩ := cp_L hn r (k + 1) f (sv W 3200 0 k ((W 3000 0 k).toInt8.toInt32)) (by omega) (by omega)
    refine ⟨W', fun K => ?_, (agr_sv W 3200 0 k _).trans x2, fun j hj => ?_, fun j h1 h2 => ?_⟩
    · unfold f_X12_boot_L16
      rw [if_neg (fun q => by have := (nI_leI (by omega) (by omega)).mp q; omega), chk_t ik, chk_t ik, lt_def, lt_def, cl_nI (by omega), nI_1]
      exact x1 K
    · rw [x3 j (by omega), sv_ne (by omega)]
    · by_cases e : j = k
      · rw [e, x3 k (by omega), sv_at]
      · rw [x4 j (by omega) h2, sv_col (by decide)]
theorem Z0_ag {kb : Nat} {cs : List Nat} {V V' : HV} (h : Z0 kb V) (hV : agr cs V V') (h1 : ∀ l ∈ rsc, l ∉ cs) : Z0 kb V' := by
  obtain ⟨⟨p1, p2, p3, p4, p5, p6, p7, p8, p9⟩, q1, q2, q3, q4, r1, r2, r3, r4, r5, r6, r7, r8, r9, r10, m1, m2⟩ := h
  have e : ∀ c o j, c ∈ rsc → V' c o j = V c o j := fun c o j hc => hV c o j (h1 c hc)
  refine ⟨⟨?_, ?_, ?_, ?_, ?_, ?_, ?_, fun j hj => ?_, fun j hj => ?_⟩, ?_, ?_, ?_, ?_, ?_, ?_, ?_, ?_, ?_, ?_, ?_, ?_, ?_, ?_, fun j hj => ?_, fun j hj => ?_⟩
  all_goals rw [e _ _ _ (by decide)]
  · exact p1
  · exact p2
  · exact p3
  · exact p4
  · exact p5
  · exact p6
  · exact p7
  · exact p8 j hj
  · exact p9 j hj
  · exact q1
  · exact q2
  · exact q3
  · exact q4
  · exact r1
  · exact r2
  · exact r3
  · exact r4
  · exact r5
  · exact r6
  · exact r7
  · exact r8
  · exact r9
  · exact r10
  · exact m1 j hj
  · exact m2 j hj
theorem Z1_ag {cs : List Nat} {W W' : HV} (h : Z1 W) (hW : agr cs W W') (h1 : ∀ l ∈ bgc, l ∉ cs) : Z1 W' := by
  obtain ⟨w1, w2, w3, w4, w5, w6, w7, w8, w9, w10, w11, w12, w13, w14, w15, w16, w17, w18, x1, x2, x3, x4⟩ := h
  have e : ∀ c o j, c ∈ bgc → W' c o j = W c o j := fun c o j hc => hW c o j (h1 c hc)
  refine ⟨?_, ?_, ?_, ?_, ?_, ?_, ?_, ?_, ?_, ?_, ?_, ?_, ?_, ?_, ?_, ?_, ?_, ?_, fun j hj => ?_, fun j hj => ?_, fun j hj => ?_, fun i hi => ?_⟩
  all_goals try rw [e _ _ _ (by decide)]
  · exact w1
  · exact w2
  · exact w3
  · exact w4
  · exact w5
  · exact w6
  · exact w7
  · exact w8
  · exact w9
  · exact w10
  · exact w11
  · exact w12
  · exact w13
  · exact w14
  · exact w15
  · exact w16
  · exact w17
  · exact w18
  · exact x1 j hj
  · exact x2 j hj
  · exact x3 j hj
  · rw [cM_fr hW (fun l hl => h1 l (by revert l; decide))]
    exact x4 i hi
/-- the parts of Z1 that a boot without a fault keeps -/
def Z2 (W : HV) : Prop := W 1047 0 0 = 0 ∧ W 1048 0 0 = -1 ∧ W 1049 0 0 = 0 ∧ W 1050 0 0 = 0 ∧ W 1051 0 0 = 0 ∧ W 1052 0 0 = 0 ∧ W 1053 0 0 = 0 ∧ W 1055 0 0 = 0 ∧ W 1060 0 0 = b2i false ∧ W 1061 0 0 = -1 ∧ W 1062 0 0 = 0 ∧ W 1064 0 0 = 0 ∧ W 1066 0 0 = 0 ∧ W 1067 0 0 = 0
/-- booted: the relation holds -/
theorem RQ_boot {kb n C T tt : Nat} {B : Nat → Nat} {V W Y : HV} (hF : FC kb n C T tt B V W) (hLY : LY Y W) (h10 : Y 1000 0 0 = nI (1024 * kb)) (h54 : W 1054 0 0 = nI (16 * sg W C T)) (hM : Rm kb V W ∧ Mgd kb Y [] W ∧ (∀ g, g < 64 * kb → i2b (W 2300 0 g) = false)) (hT : ∀ t, t < T → TF Y V W t) (hcz : ∀ i, 17 * T ≤ i → i < 582 → cM W i = nm 0) (hZ : Z2 W) (h7 : ∀ t, t < 6 → V 700 t 0 = nI t) (hl : Rl V W) (v8 : V 808 0 0 = nI T) (v9 : i2b (V 809 0 0) = true) (w17 : i2b (W 1017 0 0) = true) (hv : V 810 0 0 = 0 ∧ V 811 0 0 = -1 ∧ V 813 0 0 = 0 ∧ V 814 0 0 = 0 ∧ V 815 0 0 = 0 ∧ V 816 0 0 = 0) (hr : V 501 0 0 = 0 ∧ V 502 0 0 = 0 ∧ V 501 1 0 = 0 ∧ V 502 1 0 = 0) (hh : ZH kb (sg W C T) V) : RQ kb 0 Y [] V W := by
  obtain ⟨k1, k2, k3, k4, k5, k6, k7, k8, k9⟩ := id hF
  obtain ⟨i1, i2, i3, i4, i5, i6, i7, i8, i9, i10, i11, i12⟩ := id k4
  obtain ⟨z1, z2, z3, z4, z5, z6, z7, z8, z9, z10, z11, z12, z13, z14⟩ := hZ
  have hsg := sg_le k4 T (Nat.le_refl _)
  have hnW : nth W = T := by unfold nth; rw [i8]; exact cl_nI (by omega)
  have hcW : ncp W = C := by unfold ncp; rw [i6]; exact cl_nI (by omega)
  have hnY : nth Y = T := by rw [← nth_LY hLY]; exact hnW
  have hcY : ncp Y = C := by rw [← ncp_LY hLY]; exact hcW
  have G : ∀ (c j g : Nat), c ∈ lyc → W c 0 j = nI (16 * g) → g < 100000 → gN Y c j = g ∧ isG Y c j := fun c j g hc e hg => by
    have e' : Y c 0 j = nI (16 * g) := by rw [← hLY c hc]; exact e
    have : gN Y c j = g := by unfold gN; rw [e', cl_nI (by omega)]; omega
    exact ⟨this, by unfold isG; rw [this]; exact e'⟩
  have Ghp := G 1054 0 (sg W C T) (by decide) h54 (by omega)
  have hhp : hp Y = sg W C T := Ghp.1
  have hmono : ∀ c, c < C → cg W (c + 1) ≤ sg W C T := fun c hc => Nat.le_trans (cg_mono (W := W) (a := c + 1) C (by omega)) (sg_ge T)
  have hsm : ∀ t, t < T → sg W C (t + 1) ≤ sg W C T := fun t ht => sg_mono (a := t + 1) T (by omega)
  have ecg : ∀ c, cg W (c + 1) = cg W c + cwN W c + xN W 9000 c + xN W 8900 c := fun _ => rfl
  have esg : ∀ t, sg W C (t + 1) = sg W C t + xN W 9900 t := fun _ => rfl
  have Gc : ∀ c, c < C → gN Y 4000 c = cg W c ∧ isG Y 4000 c ∧ gN Y 4200 c = cg W c + cwN W c + xN W 9000 c ∧ isG Y 4200 c ∧ gN Y 4300 c = cg W (c + 1) ∧ isG Y 4300 c := fun c hc => by
    obtain ⟨l1, -, l3, l4⟩ := (k6 c hc).2
    have := hmono c hc
    have := ecg c
    have a := G 4000 c _ (by decide) l1 (by omega)
    have b := G 4200 c _ (by decide) l3 (by omega)
    have d := G 4300 c _ (by decide) l4 (by omega)
    exact ⟨a.1, a.2, b.1, b.2, d.1, d.2⟩
  have Gt : ∀ t, t < T → gN Y 5600 t = sg W C t ∧ isG Y 5600 t ∧ gN Y 5700 t = sg W C (t + 1) ∧ isG Y 5700 t := fun t ht => by
    obtain ⟨l1, l2⟩ := (k7 t ht).2
    have := hsm t ht
    have := esg t
    have a := G 5600 t _ (by decide) l1 (by omega)
    have b := G 5700 t _ (by decide) l2 (by omega)
    exact ⟨a.1, a.2, b.1, b.2⟩
  have h51 : ∀ t, t < T → Y 5100 0 t = nI (xN Y 5100 t) ∧ xN Y 5100 t ≤ 16 := fun t ht => by
    obtain ⟨t1, t2, t3, t4, t5, t6, t7, t8, t9, t10⟩ := i11 t ht
    have e' : Y 5100 0 t = nI (B (tt + 5 * t + 4)) := by rw [← hLY 5100 (by decide)]; exact t6
    have : xN Y 5100 t = B (tt + 5 * t + 4) := xN_eq e' (by omega)
    rw [this]; exact ⟨e', t10⟩
  have hLay : Lay kb Y := by
    refine ⟨k1, k2, h10, ?_, by omega, ?_, by omega, Ghp.2, by omega, fun c hc => ?_, fun t ht => ?_⟩
    · rw [hnY, ← hLY 1019 (by decide)]; exact i8
    · rw [hcY, ← hLY 1018 (by decide)]; exact i6
    · rw [hcY] at hc
      obtain ⟨a1, a2, a3, a4, a5, a6⟩ := Gc c hc
      have := hmono c hc
      have := ecg c
      exact ⟨a2, a4, a6, by omega, by omega, by omega⟩
    · rw [hnY] at ht
      obtain ⟨a1, a2, a3, a4⟩ := Gt t ht
      have := hsm t ht
      have := esg t
      exact ⟨a2, a4, by omega, by omega, h51 t ht⟩
  obtain ⟨y1, y2, y3, y4, y5, y6, y7, y8, y9⟩ := hh
  have xd : ∀ t, t < T → xN W 5000 t = 0 := fun t ht => xN_eq (k := 0) (hT t ht).2.1 (by decide)
  have hST : ST 1000 kb Y [] V W := by
    refine ⟨hLay, hLY, ?_, hl, fun c hc => ?_, hM.1, ?_, ?_, ?_, fun i hi => ⟨fun hok _ => ?_, ?_, fun hno => ?_, fun q1 q2 => ?_⟩, hM.2.1, fun t f ht hf => ?_, fun t ht => ?_, h7, fun t ht => ?_, fun t u ht hu => ?_, fun t u ht hu q => ?_, fun c hc q => ?_⟩
    · obtain ⟨e1, e2, e3, e4, e5, e6⟩ := hv
      exact ⟨k9.trans i6.symm, v8.trans i8.symm, v9.trans w17.symm, e1.trans z1.symm, e2.trans z2.symm, e3.trans z3.symm, e4.trans z4.symm, e5.trans z5.symm, e6.trans z6.symm⟩
    · rw [hcW] at hc
      obtain ⟨⟨l1, l2, l3, l4⟩, m1, m2, m3, m4⟩ := k6 c hc
      obtain ⟨w, gl, e, im, it, ct, c1, c2, c3, c4, c5, c6, c7, d1, d2, d3, d4, d5, d6, d7, d8, d9, d10, d11, d12, d13⟩ := i9 c hc
      refine ⟨l1.trans m1.symm, l2.trans m2.symm, l3.trans m3.symm, l4.trans m4.symm, d5.trans d6.symm, e, c4, d6, fun j hj => ?_⟩
      obtain ⟨x, y, -, -, -, q4, q5, q6, q7⟩ := d12 j hj
      exact ⟨q4.trans q5.symm, q6.trans q7.symm⟩
    · obtain ⟨e1, e2, e3, e4⟩ := hr
      exact ⟨⟨0, 0, by omega, by omega, e2, z12, e1, fun k hk => by omega⟩, 0, 0, 0, by omega, by omega, by omega, e4, z14, e3, z13, fun k hk => by omega⟩
    · refine ⟨k1, k2, (hLY 1000 (by decide) 0 0).trans h10, by rw [hnW]; exact i8, by omega, by rw [hcW]; exact i6, by omega, fun q => ?_⟩
      rw [w17] at q; exact absurd q (by decide)
    · refine ⟨?_, ⟨by rw [hhp]; exact y1, fun g hg => ⟨y8 g hg, y9 g hg⟩, y2, y3, y4⟩, ⟨z8, fun k o hk => by simp at hk⟩, ⟨y6.trans z10.symm, y5.trans z11.symm, by rw [y7, z9], Or.inl z10⟩, fun g hg => ?_⟩
      · show hp Y ≤ 64 * kb; omega
      · rw [hM.2.2 g hg]; rfl
    · rcases hok with ⟨o1, o2⟩ | ⟨o1, o2, o3, o4⟩
      · rw [hnW] at o2
        have := ((hT (i / 17) o2).2.2.2.2.2.2.2.2.1 (i % 17) (Nat.mod_lt _ (by decide))).1
        rw [show 17 * (i / 17) + i % 17 = i by omega] at this
        exact this
      · rw [hnW] at o3
        have := xd _ o3
        unfold xN at this
        omega
    · by_cases q : i < 17 * T
      · have := ((hT (i / 17) (by omega)).2.2.2.2.2.2.2.2.1 (i % 17) (Nat.mod_lt _ (by decide))).2
        rw [show 17 * (i / 17) + i % 17 = i by omega] at this
        exact this
      · rw [hcz i (by omega) hi]; exact gd_num _ _ _
    · by_cases q : i < 17 * T
      · exact absurd (Or.inl ⟨by omega, by rw [hnW]; omega⟩) hno
      · rw [hcz i (by omega) hi]; rfl
    · by_cases q : i < 17 * T
      · have := (hT (i / 17) (by omega)).2.2.2.2.2.2.2.2.2
        rw [show 17 * (i / 17) = i by omega] at this
        exact this
      · exact hcz i (by omega) hi
    · rw [hnY] at ht
      rw [xd t ht] at hf; omega
    · rw [hnY] at ht
      obtain ⟨-, b2, b3, b4, b5, b6, -⟩ := hT t ht
      obtain ⟨a1, a2, a3, a4⟩ := Gt t ht
      have := esg t
      have e58 : gN W 5800 t = gN Y 5700 t := by unfold gN; rw [b6]
      refine ⟨by rw [xd t ht]; exact b2, by rw [xd t ht]; omega, ?_, by omega, by omega, fun _ => b4, fun q => ?_, fun q => ?_⟩
      · unfold isG at a4 ⊢
        rw [e58, b6]; exact a4
      · rw [b3] at q; exact absurd q (by decide)
      · rw [b3] at q
        rcases q with q | q
        · exact absurd q (by decide)
        · exact absurd q.1 (by decide)
    · rw [hnW] at ht; exact (hT t ht).1
    · rw [hnW] at ht hu
      rw [(hT t ht).2.2.2.2.2.2.2.1, (hT u hu).2.2.2.2.2.2.2.1, (hT t ht).2.2.2.2.2.2.1, (hT u hu).2.2.2.2.2.2.1]
      exact ⟨fun q => absurd q (by decide), fun q => absurd q (by decide)⟩
    · rw [hnW] at ht
      rw [(hT t ht).2.2.1] at q; exact absurd q (by decide)
    · rw [hnW] at hc
      exact absurd (z2.symm.trans q).symm (m1_ne c (by omega))
  refine ⟨hST, ⟨z1, fun t ht => ?_, Or.inl z2, fun t ht q => ?_, 0, Nat.le_refl _, z7⟩, fun s e1 e2 => absurd (z10.symm.trans e1).symm (m1_ne s e2), fun t ht => ?_, fun t ht e => absurd (z2.symm.trans e).symm (m1_ne t (by omega))⟩
  · rw [hnW] at ht
    rw [(hT t ht).2.2.2.2.2.2.2.1, (hT t ht).2.2.2.2.2.2.1]
    exact ⟨by decide, by decide⟩
  · rw [hnW] at ht
    rw [(hT t ht).2.2.1] at q; exact absurd q (by decide)
  · rw [hnY] at ht
    obtain ⟨t1, t2, t3, t4, t5, t6, t7, t8, t9, t10⟩ := i11 t ht
    exact ⟨B (tt + 5 * t + 2), t7, by rw [← hLY 5500 (by decide)]; exact t4⟩
