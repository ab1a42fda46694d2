/-! a return, the registers being whatever they are -/
theorem ret_pos {kb T Tw t d : Nat} {Y : HV} {l : List Ob} {V0 V W0 W : HV} {f g : Nat → Cp} (h : OK 1000 kb T Tw t Y l V0 W0) (hV : UC V0 f V) (hW : UM W0 g W) (ho : ∀ i, i < 582 → ¬ (17 * t ≤ i ∧ i < 17 * t + 17) → f i = cC V0 i ∧ g i = cM W0 i) (hxd : xN W0 5000 t = d + 1) : ∃ V' W', f_X9_giveBack kb t 0 V = some V' ∧ f_X12_returns 0 W = some W' ∧ (∀ V'' W'' f'' g'', UC V' f'' V'' → UM W' g'' W'' → (∀ i, i < 582 → i ≠ 17 * t + 10 → i ≠ 17 * t + 11 → f'' i = cC V' i ∧ g'' i = cM W' i) → (f'' (17 * t + 10) = g'' (17 * t + 10) ∧ gd Y (lv l) (g'' (17 * t + 10))) → (f'' (17 * t + 11) = g'' (17 * t + 11) ∧ gd Y (lv l) (g'' (17 * t + 11))) → OK 1000 kb T Tw t Y l V'' W'') ∧ cC V' (17 * t + 10) = f (17 * t + 10) ∧ cC V' (17 * t + 11) = f (17 * t + 11) ∧ cM W' (17 * t + 10) = g (17 * t + 10) ∧ cM W' (17 * t + 11) = g (17 * t + 11) ∧ V' 711 t 0 = V0 711 t 0 ∧ W' 1080 0 0 = nI t := by
  have h6 := OK_t6 h
  obtain ⟨h1, h2, h3, h4, h5, hn⟩ := id h
  have hL := h1.1
  have r1 := OK_Rt1 h
  have hT := OK_Thr h t hn
  obtain ⟨b, gg, a1, a2, a3, a4, a5, a6, a7, a8, a9⟩ := OK_stk h
  have hd : W0 5000 0 t = nI (d + 1) := by rw [← hxd]; exact hT.1
  have hd16 : d < 16 := by
    have := hT.2.1
    have hm := (hL.2.2.2.2.2.2.2.2.2.2 t hn).2.2.2.2.2
    omega
  obtain ⟨m1, m2, m3, q, e, m4, m5, m6, m7, m8⟩ := h1.2.2.2.2.2.2.2.2.2.2.2.1 t d hn (by omega)
  have gV : ∀ c o j, c ∉ [0, 1, 2, 3, 4, 5] → V c o j = V0 c o j := fun c o j hc => hV.2 c o j hc
  have gW : ∀ c o j, c ∉ [2400, 2500, 2600, 2700, 2800, 2900] → W c o j = W0 c o j := fun c o j hc => hW.2 c o j hc
  have okF : ∀ k, k < 5 → okc W0 (102 + 80 * t + 5 * d + k) := fun k hk => (okc_F h6 hd16 hk).mpr ⟨by rw [nth_LY h1.2.1]; exact hn, by omega⟩
  have hC := h1.2.2.2.2.2.2.2.2.2.1
  have eqF : ∀ k, k < 5 → cC V0 (102 + 80 * t + 5 * d + k) = cM W0 (102 + 80 * t + 5 * d + k) := fun k hk => (hC (102 + 80 * t + 5 * d + k) (by omega)).1 (okF k hk) (by omega)
  have gdF : ∀ k, k < 5 → gd Y l (cM W0 (102 + 80 * t + 5 * d + k)) := fun k hk => (hC (102 + 80 * t + 5 * d + k) (by omega)).2.1
  have eC : ∀ k, k < 5 → cC V (102 + 80 * t + 5 * d + k) = cM W0 (102 + 80 * t + 5 * d + k) := fun k hk => by rw [hV.1, (ho _ (by omega) (by omega)).1]; exact eqF k hk
  have eM : ∀ k, k < 5 → cM W (102 + 80 * t + 5 * d + k) = cM W0 (102 + 80 * t + 5 * d + k) := fun k hk => by rw [hW.1, (ho _ (by omega) (by omega)).2]
  have hcur : (cM W0 (102 + 80 * t + 5 * d + 1)).1 = nI (16 * q) := m4
  have hRv : Rv kb l W := Rv_fr (ST_Rv h1) hW.2 (by decide) (by decide)
  obtain ⟨V', x1, x2, x3, x4, x5, x6, x7, x8, x9, x10⟩ := give_C (kb := kb) (l := l) (b := b) (q := q) (R := fun g => i2b (W0 2300 0 g)) (V := V) a9 h6 hd16 (by rw [gV 704 t 0 (by decide), r1.1]; exact hd) (Mk_fr (ST_Mk h1) hV.2 (by decide)) (fun g hg => ⟨_, by rw [gV 2400 0 g (by decide)]; exact Rm_mk h1.2.2.2.2.2.1 hg⟩) (by rw [gV 707 t 0 (by decide)]; exact a3) (by rw [eC 1 (by decide)]; exact hcur) (by omega) (by omega)
  obtain ⟨W', y1, y2, y3, y4, y5, y6, y7, y8, y9, y10, y11⟩ := ret_M (kb := kb) (l := l) (b := b) (q := q) (W := W) hRv (by rw [gW 1080 0 0 (by decide)]; exact h5) h6 hd16 (by rw [gW 5000 0 t (by decide)]; exact hd) (by rw [gW 5600 0 t (by decide)]; exact a1) (by rw [eM 1 (by decide)]; exact hcur) (by omega) (by omega)
  have z0 := eC 0 (by decide)
  have z0' := eM 0 (by decide)
  rw [Nat.add_zero] at z0 z0'
  rw [z0, eC 1 (by decide), eC 2 (by decide), eC 3 (by decide), eC 4 (by decide)] at x2
  rw [z0', eM 1 (by decide), eM 2 (by decide), eM 3 (by decide), eM 4 (by decide)] at y2
  rw [eC 1 (by decide)] at x8
  have hgF : ∀ k, k < 5 → gd Y (lv l) (fil kb l (cM W0 (102 + 80 * t + 5 * d + k))) := fun k hk => gd_fl h1.2.2.2.2.2.2.2.2.1.1 (gdF k hk)
  have hg0 := hgF 0 (by decide)
  rw [Nat.add_zero] at hg0
  have hg1 := hgF 1 (by decide)
  have hg2 := hgF 2 (by decide)
  have hg3 := hgF 3 (by decide)
  have hg4 := hgF 4 (by decide)
  generalize fil kb l (cM W0 (102 + 80 * t + 5 * d)) = w0 at x2 y2 hg0
  generalize fil kb l (cM W0 (102 + 80 * t + 5 * d + 1)) = w1 at x2 y2 hg1
  generalize fil kb l (cM W0 (102 + 80 * t + 5 * d + 2)) = w2 at x2 y2 hg2
  generalize fil kb l (cM W0 (102 + 80 * t + 5 * d + 3)) = w3 at x2 y2 hg3
  generalize fil kb l (cM W0 (102 + 80 * t + 5 * d + 4)) = w4 at x2 y2 hg4
  obtain ⟨p1, p2, p3, p4, p5, p6, p7, p8, p9⟩ := x2
  obtain ⟨s1, s2, s3, s4, s5, s6, s7, s8, s9⟩ := y2
  refine ⟨V', W', x1, y1, fun V'' W'' f'' g'' u'' m'' o'' e10 e11 => ?_, p8.trans (by rw [hV.1]), p9.trans (by rw [hV.1]), s8.trans (by rw [hW.1]), s9.trans (by rw [hW.1]), (x3 711 t 0 (by decide)).trans (gV 711 t 0 (by decide)), (y4 1080 0 0 (by decide)).trans ((gW 1080 0 0 (by decide)).trans h5)⟩
  have aV : agr [0, 1, 2, 3, 4, 5, 704, 708, 709, 710, 2300, 2400] V0 V'' := ((hV.2.app x3).app u''.2).sub (by decide)
  have aW : agr [2100, 2200, 2400, 2500, 2600, 2700, 2800, 2900, 4900, 5000, 5200, 5800] W0 W'' := ((hW.2.app y4).app m''.2).sub (by decide)
  have hV2 : ∀ c o j, c ∉ [0, 1, 2, 3, 4, 5] → V'' c o j = V' c o j := fun c o j hc => u''.2 c o j hc
  have hW2 : ∀ c o j, c ∉ [2400, 2500, 2600, 2700, 2800, 2900] → W'' c o j = W' c o j := fun c o j hc => m''.2 c o j hc
  have ct := wp_ct (V := V0) (W := W0) (V' := V'') (W' := W'') (a := b) (b := q) h1.2.2.2.2.2.1 h1.2.2.2.2.2.2.2.2.2.2.1 h4
    ((funext fun j => hV2 2300 0 j (by decide)).trans (x9.trans (by rw [show V 2300 0 = V0 2300 0 from funext fun j => gV 2300 0 j (by decide)])))
    ((funext fun j => hV2 2400 0 j (by decide)).trans (x10.trans (by rw [show V 2400 0 = V0 2400 0 from funext fun j => gV 2400 0 j (by decide)])))
    ((funext fun j => hW2 2100 0 j (by decide)).trans (y10.trans (by rw [show W 2100 0 = W0 2100 0 from funext fun j => gW 2100 0 j (by decide)])))
    ((funext fun j => hW2 2200 0 j (by decide)).trans (y11.trans (by rw [show W 2200 0 = W0 2200 0 from funext fun j => gW 2200 0 j (by decide)])))
    (fun g => aW 2300 0 g (by decide)) (aW 1061 0 0 (by decide))
  have hnth : nth W'' = nth W0 := nth_fr aW (by decide)
  have e50 : W'' 5000 0 t = nI d := (hW2 5000 0 t (by decide)).trans y6
  have hx5 : ∀ u, xN W'' 5000 u = if u = t then d else xN W0 5000 u := by
    intro u
    unfold xN
    by_cases ee : u = t
    · rw [if_pos ee, ee, e50, cl_nI (by omega)]
    · rw [if_neg ee, hW2 5000 0 u (by decide), y5 5000 (by decide) u ee, gW 5000 0 u (by decide)]
  refine OK_updM (d := d) h aV aW ct.1 ct.2.1 ct.2.2 (by omega) ((hV2 704 t 0 (by decide)).trans x5) e50 (fun i hi hni => ?_) (fun k hk => ?_) ?_ (Or.inl rfl) (fun c hc u hu => ?_) (fun c hc u hu => ?_) ?_ ?_ ?_ ⟨e, ?_, by omega, m8⟩
  · rw [u''.1, m''.1, (o'' i hi (by omega) (by omega)).1, (o'' i hi (by omega) (by omega)).2]
    by_cases hf : 102 + 80 * t + 5 * d ≤ i ∧ i < 102 + 80 * t + 5 * d + 5
    · refine ⟨fun q => ?_, fun _ => Or.inr (y3 i hf.1 hf.2)⟩
      exfalso
      obtain ⟨k, hk, rfl⟩ : ∃ k, k < 5 ∧ i = 102 + 80 * t + 5 * d + k := ⟨i - (102 + 80 * t + 5 * d), by omega, by omega⟩
      have := ((okc_F h6 hd16 hk).mp q).2
      rw [hx5, if_pos rfl] at this
      omega
    · rw [p1 i hi hni hf, s1 i hi hni hf, hV.1, hW.1, (ho i hi hni).1, (ho i hi hni).2]
      refine ⟨fun _ => ⟨rfl, rfl⟩, fun q => Or.inl ⟨fun q2 => q ?_, rfl⟩⟩
      by_cases h102 : i < 102
      · exact (okc_R hnth h102).mpr q2
      · obtain ⟨u, ff, k, hu6, hff, hk, rfl⟩ := fr_ex (by omega) hi
        rw [okc_F hu6 hff hk] at q2 ⊢
        rw [hnth, hx5]
        refine ⟨q2.1, ?_⟩
        by_cases ee : u = t
        · rw [if_pos ee]
          have q3 := q2.2
          rw [ee, hxd] at q3
          rw [ee] at hf
          omega
        · rw [if_neg ee]; exact q2.2
  · rw [u''.1, m''.1]
    by_cases k10 : k = 10
    · rw [k10]; exact ⟨fun _ => e10.1, e10.2⟩
    by_cases k11 : k = 11
    · rw [k11]; exact ⟨fun _ => e11.1, e11.2⟩
    rw [(o'' (17 * t + k) (by omega) (by omega) (by omega)).1, (o'' (17 * t + k) (by omega) (by omega) (by omega)).2]
    by_cases k16 : k = 16
    · rw [k16, p2, s2]; exact ⟨fun _ => rfl, hg0⟩
    by_cases k2 : k = 2
    · rw [k2, p3, s3]; exact ⟨fun _ => rfl, hg1⟩
    by_cases k3 : k = 3
    · rw [k3, p4, s4]; exact ⟨fun _ => rfl, hg2⟩
    by_cases k8 : k = 8
    · rw [k8, p5, s5]; exact ⟨fun _ => rfl, hg3⟩
    by_cases k9 : k = 9
    · rw [k9, p6, s6]; exact ⟨fun _ => rfl, hg4⟩
    rw [p7 k (by omega), s7 k (by omega)]
    exact ⟨fun _ => rfl, gd_num _ _ _⟩
  · rw [m''.1, (o'' (17 * t) (by omega) (by omega) (by omega)).2]
    exact s7 0 (by omega)
  · rw [hV2 c u 0 (by revert c; decide), x4 c hc u hu, gV c u 0 (by revert c; decide)]
  · rw [hW2 c 0 u (by revert c; decide), y5 c hc u hu, gW c 0 u (by revert c; decide)]
  · rw [hV2 709 t 0 (by decide), hW2 4900 0 t (by decide), x6, y7, gV 206 _ 0 (by decide), gW 6400 0 _ (by decide)]; exact m1
  · rw [hV2 710 t 0 (by decide), hW2 5200 0 t (by decide), x7, y8, gV 205 _ 0 (by decide), gW 6500 0 _ (by decide)]; exact m2
  · rw [hV2 708 t 0 (by decide), hW2 5800 0 t (by decide), x8, y9, gW 6600 0 _ (by decide)]; exact m3
  · rw [hW2 5800 0 t (by decide), y9, gW 6600 0 _ (by decide)]; exact m5
