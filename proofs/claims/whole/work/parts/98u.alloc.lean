/-! the state with a new object -/
theorem lv_ins {w p : Nat} {l : List Ob} {o : Ob} (h : o ∈ lv l) : o ∈ lv (ins w p l) := by
  unfold lv at h ⊢
  rw [List.mem_filter] at h ⊢
  exact ⟨ins_mem h.1, h.2⟩
theorem sw_ins {w p : Nat} {l : List Ob} {o : Ob} (h : o ∈ sw l) : o ∈ sw (ins w p l) := by
  unfold sw at h ⊢
  rw [List.mem_filter] at h ⊢
  exact ⟨ins_mem h.1, h.2⟩
theorem lv_new {w p : Nat} {l : List Ob} : ((ft w p l).1, w, 1) ∈ lv (ins w p l) := by
  unfold lv
  rw [List.mem_filter]
  exact ⟨ins_new, by simp⟩
theorem Cps_mono {x : Nat} {Y : HV} {l l' : List Ob} {ok : Nat → Prop} {f g : Nat → Cp} (hl : ∀ o, o ∈ l → o ∈ l') (h : CpsF x Y l ok f g) : CpsF x Y l' ok f g := fun i hi => ⟨(h i hi).1, gd_mono hl (h i hi).2.1, (h i hi).2.2⟩
theorem Hp_new {kb w : Nat} {Y : HV} {l : List Ob} {R : Nat → Bool} {V V' W W' : HV} (h : Hp kb Y l V W) (hw0 : 0 < w) (hf : ¬ fi w (64 * kb) (hp Y) l = none) (hC : NewC kb (ft w (hp Y) l).1 w R V V') (hM : NewM (ft w (hp Y) l).1 w (ins w (hp Y) l) W W') : Hp kb Y (ins w (hp Y) l) V' W' := by
  obtain ⟨a1, ⟨b1, b2, b3, b4, b5⟩, c, d, e⟩ := h
  obtain ⟨c1, c2, c3, c4, c5, c6, c7⟩ := hC
  obtain ⟨m1, m2, m3, m4⟩ := hM
  obtain ⟨n1, n2, n3, n4⟩ := cnt_ins (w := w) l (hp Y)
  refine ⟨ins_srt hw0 l _ a1 hf, ⟨?_, fun g hg => ?_, ?_, ?_, ?_⟩, m2, ?_, fun g hg => ?_⟩
  · rw [c1 302 0 0 (by decide)]; exact b1
  · rw [c2, c3, lk_ins l _ a1]
    by_cases q : g = (ft w (hp Y) l).1
    · rw [if_pos q, if_pos q, if_pos q]; exact ⟨rfl, rfl⟩
    · rw [if_neg q, if_neg q, if_neg q]; exact b2 g hg
  · rw [c4, b3, n1, nI_1]
  · rw [c5, b4, n2, nI_add]
  · rw [c1 305 0 0 (by decide), n3]; exact b5
  · unfold HpS at d ⊢
    rw [c1 307 0 0 (by decide), c1 306 0 0 (by decide), c1 308 0 0 (by decide), m1 1061 0 0 (by decide), m1 1062 0 0 (by decide), m1 1060 0 0 (by decide)]
    exact d
  · rw [m1 2300 0 g (by decide), n4]; exact e g hg
theorem ST_new {x kb w : Nat} {Y : HV} {l : List Ob} {V V' W W' : HV} (h : ST x kb Y l V W) (hJ : Jm Y l W) (hw0 : 0 < w) (hf : ¬ fi w (64 * kb) (hp Y) l = none) (hC : NewC kb (ft w (hp Y) l).1 w (fun g => i2b (W 2300 0 g)) V V') (hM : NewM (ft w (hp Y) l).1 w (ins w (hp Y) l) W W') : ST x kb Y (ins w (hp Y) l) V' W' ∧ Jm Y (ins w (hp Y) l) W' := by
  obtain ⟨h1, h2, h3, h4, h5, h6, h7, h8, h9, h10, h11, h12, h13, h14⟩ := h
  have hH := Hp_new h9 hw0 hf hC hM
  obtain ⟨c1, c2, c3, c4, c5, c6, c7⟩ := hC
  obtain ⟨m1, m2, m3, m4⟩ := hM
  obtain ⟨q1, q2, q3⟩ := wp_ct h6 h11 hJ c6 c7 m3 m4 (fun g => m1 2300 0 g (by decide)) (m1 1061 0 0 (by decide))
  refine ⟨⟨h1, LY_fr m1 (by decide) h2, Rs_fr c1 m1 (by decide) (by decide) h3, Rl_fr c1 m1 (by decide) (by decide) h4, Rc_fr c1 m1 (by decide) (by decide) h5, q1, Ri_fr c1 m1 (by decide) (by decide) h7, In_fr m1 (by decide) h8, hH, Cps_mono (fun o ho => ins_mem ho) (Cps_fr c1 m1 (by decide) (by decide) h10), fun q hq => gd_mono (fun o ho => ins_mem ho) (q2 q hq), Frm_fr c1 m1 (by decide) (by decide) h12, Thr_fr m1 (by decide) h13, Rt_fr c1 m1 (by decide) (by decide) h14⟩, fun s e1 e2 q hq => gd_mono (fun o ho => sw_ins ho) (q3 s e1 e2 q hq)⟩
theorem gd_new {kb w : Nat} {Y : HV} {l : List Ob} (hkb : kb ≤ 32) (hw0 : 0 < w) (hs : srt (64 * kb) (hp Y) l) (hf : ¬ fi w (64 * kb) (hp Y) l = none) : gd Y (lv (ins w (hp Y) l)) (ncap (ft w (hp Y) l).1 w) ∧ fil kb (ins w (hp Y) l) (ncap (ft w (hp Y) l).1 w) = ncap (ft w (hp Y) l).1 w := by
  have hp2 := ft_hi hw0 l (hp Y) hs hf
  have hS := ins_srt hw0 l _ hs hf
  have hN := lv_new (w := w) (p := hp Y) (l := l)
  have hN2 := ins_new (w := w) (p := hp Y) (l := l)
  generalize (ft w (hp Y) l).1 = p at *
  generalize ins w (hp Y) l = l' at *
  have u1 : uN (nI (16 * p)) = 16 * p := uN_nI (by omega)
  have u2 : uN (nI (16 * (p + w))) = 16 * (p + w) := uN_nI (by omega)
  refine ⟨⟨by show (91 : Int32) &&& 255 = 91; decide, by show (0 : Int32) &&& 255 = 0; decide, fun _ => ⟨fun q4 => absurd q4 (by show ¬ (0 : Int32) = 4; decide), fun _ => ?_⟩⟩, fil_ok (fun _ => ?_)⟩
  · refine Or.inr (Or.inr (Or.inr (Or.inr (Or.inr ⟨(p, w, 1), hN, ?_, ?_, show sub 91 91 by unfold sub; decide⟩))))
    · show 16 * p ≤ uN (nI (16 * p)); omega
    · show uN (nI (16 * (p + w))) ≤ 16 * (p + w); omega
  · rintro ⟨_, _, g3⟩
    have g3' : rvk l' (uN (nI (16 * p)) / 16) = true := g3
    rw [u1, show 16 * p / 16 = p by omega] at g3'
    unfold rvk at g3'
    rw [List.any_eq_true] at g3'
    obtain ⟨o, ho, e⟩ := g3'
    simp only [decide_eq_true_eq] at e
    have e1 := lk_mem hS ho
    have e2 := lk_mem hS hN2
    have key : ∀ (l : List Ob) (lo : Nat), srt (64 * kb) lo l → ∀ a b, a ∈ l → b ∈ l → a.1 ≤ b.1 → b.1 < a.1 + a.2.1 → a.1 = b.1 := by
      intro l
      induction l with
      | nil => intro lo _ a b ha; cases ha
      | cons c l ih =>
        intro lo hs a b ha hb h1 h2
        rcases List.mem_cons.mp ha with ea | ha'
        · rcases List.mem_cons.mp hb with eb | hb'
          · rw [ea, eb]
          · have := srt_ge hs.2.2.2 hb'
            rw [ea] at h2
            omega
        · rcases List.mem_cons.mp hb with eb | hb'
          · have := srt_ge hs.2.2.2 ha'
            have := hs.2.1
            rw [eb] at h1
            omega
          · exact ih _ hs.2.2.2 a b ha' hb' h1 h2
    have e3 := key l' _ hS o (p, w, 1) ho hN2 e.2.1 e.2.2
    have e3' : o.1 = p := e3
    rw [e3'] at e1
    have e2' : lk l' p = (w, 1) := e2
    have : o.2 = (w, 1) := e1.symm.trans e2'
    exact e.1 (by rw [this])
/-- other columns, and the heap's list -/
theorem QS_colL {kb T Tw t : Nat} {Y : HV} {l l' : List Ob} {V V' W W' : HV} {L M : List Nat} (h : QS kb T Tw t Y l V W) (hV : agr L V V') (hW : agr M W W') (hL : ∀ c ∈ [0, 1, 2, 3, 4, 5], c ∉ L) (hM : ∀ c ∈ [1080, 2400, 2500, 2600, 2700, 2800, 2900], c ∉ M) (hS : ∀ V0, agr [0, 1, 2, 3, 4, 5] V0 V → ST 1000 kb Y l V0 W → Tm T Tw V0 W → Jm Y l W → ST 1000 kb Y l' (mrg V0 V') W' ∧ Tm T T (mrg V0 V') W' ∧ Jm Y l' W') : QS kb T T t Y l' V' W' := by
  obtain ⟨V0, f, h1, h2, h4, h5, hn, hu, ho, hk, hz⟩ := h
  obtain ⟨s1, s2, s3⟩ := hS V0 hu.2 h1 h2 h4
  have cW : cM W' = cM W := cM_fr hW (fun c hc => hM c (by revert c; decide))
  refine ⟨mrg V0 V', f, s1, s2, s3, (hW 1080 0 0 (hM 1080 (by decide))).trans h5, hn, ⟨(cC_fr hV hL).trans hu.1, (mrg_U V0 V').2⟩, fun i hi hni => ho i hi hni, fun k hkp => ?_, fun k hk17 hnk hk10 => ?_⟩
  · rw [cW]; exact hk k hkp
  · rw [cW]; exact hz k hk17 hnk hk10
theorem NewC_mrg {kb p w : Nat} {R : Nat → Bool} {V0 V V' : HV} (hu : agr [0, 1, 2, 3, 4, 5] V0 V) (h : NewC kb p w R V V') : NewC kb p w R V0 (mrg V0 V') := by
  obtain ⟨c1, c2, c3, c4, c5, c6, c7⟩ := h
  have g : ∀ c o j, ¬ c < 6 → V c o j = V0 c o j := fun c o j hc => hu c o j (cap_lt hc)
  refine ⟨mrg_agr (f := cC V) ⟨rfl, hu⟩ c1, fun q => ?_, fun q => ?_, ?_, ?_, ?_, ?_⟩
  · rw [mrg_ge (by decide), c2, g 2500 0 q (by decide)]
  · rw [mrg_ge (by decide), c3, g 2600 0 q (by decide)]
  · rw [mrg_ge (by decide), c4, g 303 0 0 (by decide)]
  · rw [mrg_ge (by decide), c5, g 304 0 0 (by decide)]
  · rw [show (mrg V0 V') 2300 0 = V' 2300 0 from funext fun j => mrg_ge (by decide), c6, show V 2300 0 = V0 2300 0 from funext fun j => g 2300 0 j (by decide)]
  · rw [show (mrg V0 V') 2400 0 = V' 2400 0 from funext fun j => mrg_ge (by decide), c7, show V 2400 0 = V0 2400 0 from funext fun j => g 2400 0 j (by decide)]
theorem QS_heap {kb T Tw t : Nat} {Y : HV} {l : List Ob} {V W : HV} (h : QS kb T Tw t Y l V W) : Hp kb Y l V W ∧ kb ≤ 32 ∧ hp Y < 64 * kb ∧ W 1000 0 0 = nI (1024 * kb) ∧ W 1054 0 0 = nI (16 * hp Y) ∧ (∀ g, g < 64 * kb → V 2400 0 g = mk (i2b (W 2200 0 g)) (i2b (W 2300 0 g))) := by
  obtain ⟨V0, f, h1, h2, h4, h5, hn, hu, ho, hk, hz⟩ := h
  refine ⟨Hp_fr hu.2 (agr_rfl W) (by decide) (by decide) h1.2.2.2.2.2.2.2.2.1, h1.1.2.1, h1.1.2.2.2.2.2.2.2.2.1, (h1.2.1 1000 (by decide) 0 0).trans h1.1.2.2.1, (h1.2.1 1054 (by decide) 0 0).trans h1.1.2.2.2.2.2.2.2.1, fun g hg => ?_⟩
  rw [hu.2 2400 0 g (by decide)]
  exact Rm_mk h1.2.2.2.2.2.1 hg
theorem QS_10' {kb T Tw t : Nat} {Y : HV} {l : List Ob} {V W : HV} {y : Cp} (h : QS kb T Tw t Y l V W) : QS kb T Tw t Y l (kC V (17 * t + 10) y) W := by
  obtain ⟨V0, f, h1, h2, h4, h5, hn, hV, ho, hk, hz⟩ := h
  refine ⟨V0, up f (17 * t + 10) y, h1, h2, h4, h5, hn, ⟨by rw [(kC_U V (17 * t + 10) y).1, hV.1], fun c o j hc => ?_⟩, fun i hi hni => ?_, fun k hkp => ?_, hz⟩
  · rw [(kC_U V (17 * t + 10) y).2 c o j hc]; exact hV.2 c o j hc
  · rw [up_ne (by omega)]; exact ho i hi hni
  · unfold kpt at hkp
    rw [up_ne (by omega)]; exact hk k hkp
theorem any_hld {hi : Nat} : ∀ (l : List Ob) (lo : Nat), srt hi lo l → (l.any (fun o => decide (o.2.2 ≠ 1))) = decide (0 < hld l)
  | [], _, _ => rfl
  | o :: l, lo, h => by
    rw [List.any_cons, any_hld l _ h.2.2.2]
    have := h.2.1
    by_cases q : o.2.2 = 1
    · rw [decide_eq_false (fun z => z q), Bool.false_or, show hld (o :: l) = (if o.2.2 = 1 then 0 else o.2.1) + hld l from rfl, if_pos q, Nat.zero_add]
    · rw [decide_eq_true q, Bool.true_or, show hld (o :: l) = (if o.2.2 = 1 then 0 else o.2.1) + hld l from rfl, if_neg q, decide_eq_true (by omega)]
theorem af_L {W : HV} {K : Bool → Option Bool} : ∀ (l : List Ob) (k f : Nat) (b : Bool), (∀ i o, l[i]? = some o → i2b (W 7800 0 (k + i)) = decide (o.2.2 ≠ 1)) → W 1055 0 0 = nI (k + l.length) → k + l.length ≤ 2048 → l.length < f → f_X12_anyFreed_L4 0 W K f b (nI k) = K (b || l.any (fun o => decide (o.2.2 ≠ 1)))
  | _, _, 0, _, _, _, _, hf => absurd hf (by omega)
  | [], k, f + 1, b, ha, hn, hk, hf => by
    unfold f_X12_anyFreed_L4
    rw [hn, if_pos (show nI (k + ([] : List Ob).length) ≤ nI k from nI_le (by simp) (by simp at hk; omega)), List.any_nil, Bool.or_false]
  | o :: l, k, f + 1, b, ha, hn, hk, hf => by
    have hk' : k + l.length + 1 ≤ 2048 := by simp only [List.length_cons] at hk; omega
    have hf' : l.length < f := by simp only [List.length_cons] at hf; omega
    have ik : inb (nI k) 2049 := inb_nI (by omega) (by decide)
    have a1 := ha 0 o rfl
    rw [Nat.add_zero] at a1
    unfold f_X12_anyFreed_L4
    rw [hn, if_neg (fun q => by have := (nI_leI (by simp only [List.length_cons]; omega) (by omega)).mp q; simp only [List.length_cons] at this; omega), jn_def, jn_def, List.any_cons]
    have step : ∀ b', f_X12_anyFreed_L4 0 W K f b' (nI k + 1) = K (b' || l.any (fun o => decide (o.2.2 ≠ 1))) := fun b' => by
      rw [nI_1]
      exact af_L l (k + 1) f b' (fun i o' hi' => by
        have := ha (i + 1) o' hi'
        rw [show k + (i + 1) = k + 1 + i by omega] at this
        exact this) (by rw [hn]; congr 1; simp only [List.length_cons]; omega) (by omega) hf'
    by_cases q : b = true
    · rw [if_pos q]
      refine (step true).trans ?_
      rw [q, Bool.true_or, Bool.true_or]
    · rw [if_neg q, chk_t ik, cl_nI (by omega), a1, bF q, Bool.false_or]
      by_cases q2 : o.2.2 ≠ 1
      · rw [decide_eq_true q2, if_pos rfl]
        refine (step true).trans ?_
        rw [Bool.true_or]
      · rw [decide_eq_false q2, if_neg (show ¬ false = true by decide)]
        refine (step false).trans ?_
        rw [Bool.false_or]
theorem anyF_M {kb h : Nat} {l : List Ob} {W : HV} (hkb : kb ≤ 32) (hs : srt (64 * kb) h l) (hM : HpM l W) : f_X12_anyFreed 0 W = some (decide (0 < hld l)) := by
  have hlen := srt_len l h hs
  unfold f_X12_anyFreed
  rw [jn_def]
  have := af_L (W := W) (K := fun v3 => some v3) l 0 FU false (fun i o hi => by rw [Nat.zero_add]; exact (hM.2 i o hi).2.2.1) (by rw [Nat.zero_add]; exact hM.1) (by omega) (FU_gt (by omega))
  refine Eq.trans this ?_
  rw [Bool.false_or, any_hld l h hs]
theorem QS_ask {kb T Tw t : Nat} {Y : HV} {l : List Ob} {V W : HV} {b : Bool} (hT1 : Tw ≤ T) (hT2 : T < 2147483648) (h : QS kb T Tw t Y l V W) : QS kb T T t Y l (sv V 308 0 0 (b2i b)) (sv W 1060 0 0 (b2i b)) := by
  refine QS_col h (agr_sv V 308 0 0 _) (agr_sv W 1060 0 0 _) (by decide) (by decide) (fun V0 hu h1 h2 h4 => ?_)
  have aV : agr [308] V0 (mrg V0 (sv V 308 0 0 (b2i b))) := mrg_agr (f := cC V) ⟨rfl, hu⟩ (agr_sv V 308 0 0 _)
  have aW : agr [1060] W (sv W 1060 0 0 (b2i b)) := agr_sv W 1060 0 0 _
  refine ⟨ST_hp h1 (aV.sub (by decide)) (aW.sub (by decide)) ?_, Tm_fr aV aW (by decide) (by decide) (Tm_up h2 hT1 hT2), Jm_fr aW (by decide) h4⟩
  obtain ⟨s1, s2, s3, s4⟩ := h1.2.2.2.2.2.2.2.2.1.2.2.2.1
  unfold HpS
  rw [aV 307 0 0 (by decide), aV 306 0 0 (by decide), mrg_ge (show ¬ 308 < 6 by decide), sv_at, aW 1061 0 0 (by decide), aW 1062 0 0 (by decide), sv_at]
  exact ⟨s1, s2, rfl, s4⟩
theorem QS_slp {kb T t w : Nat} {Y : HV} {l : List Ob} {V W : HV} (hT2 : T < 1073741824) (hw0 : 0 < w) (hw : w ≤ 2048) (h : QS kb T T t Y l V W) (hst : V 711 t 0 = 0) : QS kb T T t Y l (sv (sv V 715 t 0 (nI w)) 711 t 0 4) (sv (sv (sv W 6300 0 t (nI (16 * w))) 4700 0 t 1) 4800 0 t (-1)) := by
  have r := QS_Rt1 h
  obtain ⟨s1, s2⟩ := QS_st h hst
  have h48 : W 4800 0 t = -1 := by
    obtain ⟨V0, f, h1, h2, h4, h5, hn, -⟩ := h
    exact (h1.2.2.2.2.2.2.2.2.2.2.2.2.1 t hn).2.2.2.2.2.1 (Or.inl s1)
  have bV : agr [711, 715] V (sv (sv V 715 t 0 (nI w)) 711 t 0 4) := ((agr_sv _ _ _ _ _).app (agr_sv _ _ _ _ _)).sub (by decide)
  have aW : agr [4700, 4800, 6300] W (sv (sv (sv W 6300 0 t (nI (16 * w))) 4700 0 t 1) 4800 0 t (-1)) := (((agr_sv _ _ _ _ _).app (agr_sv _ _ _ _ _)).app (agr_sv _ _ _ _ _)).sub (by decide)
  have v1 : (sv (sv V 715 t 0 (nI w)) 711 t 0 4) 711 t 0 = 4 := sv_at _ _ _ _ _
  have v2 : (sv (sv V 715 t 0 (nI w)) 711 t 0 4) 715 t 0 = nI w := by rw [sv_col (by decide), sv_at]
  have vo : ∀ c, ∀ u, u ≠ t → (sv (sv V 715 t 0 (nI w)) 711 t 0 4) c u 0 = V c u 0 := fun c u hu => by rw [sv_ne (fun q => hu q.2.1), sv_ne (fun q => hu q.2.1)]
  have w1 : (sv (sv (sv W 6300 0 t (nI (16 * w))) 4700 0 t 1) 4800 0 t (-1)) 4700 0 t = 1 := by rw [sv_col (by decide), sv_at]
  have w2 : (sv (sv (sv W 6300 0 t (nI (16 * w))) 4700 0 t 1) 4800 0 t (-1)) 4800 0 t = -1 := sv_at _ _ _ _ _
  have w3 : (sv (sv (sv W 6300 0 t (nI (16 * w))) 4700 0 t 1) 4800 0 t (-1)) 6300 0 t = nI (16 * w) := by rw [sv_col (by decide), sv_col (by decide), sv_at]
  have wo : ∀ c, ∀ u, u ≠ t → (sv (sv (sv W 6300 0 t (nI (16 * w))) 4700 0 t 1) 4800 0 t (-1)) c 0 u = W c 0 u := fun c u hu => by rw [sv_ne (fun q => hu q.2.2), sv_ne (fun q => hu q.2.2), sv_ne (fun q => hu q.2.2)]
  generalize sv (sv V 715 t 0 (nI w)) 711 t 0 4 = V' at *
  generalize sv (sv (sv W 6300 0 t (nI (16 * w))) 4700 0 t 1) 4800 0 t (-1) = W' at *
  refine QS_col h bV aW (by decide) (by decide) (fun V0 hu h1 h2 h4 => ?_)
  have aV : agr [711, 715] V0 (mrg V0 V') := mrg_agr (f := cC V) ⟨rfl, hu⟩ bV
  have g0 : ∀ c u, ¬ c < 6 → u ≠ t → (mrg V0 V') c u 0 = V0 c u 0 := fun c u hc he => by rw [mrg_ge hc, vo c u he, hu c u 0 (cap_lt hc)]
  refine ⟨ST_state (t := t) h1 (aV.sub (by decide)) (aW.sub (by decide)) (fun c hc u he => g0 c u (by revert c; decide) he) (fun c _ u he => wo c u he) ?_ ?_ (fun q => absurd (w1.symm.trans q) (by decide)), ?_, Jm_fr aW (by decide) h4⟩
  · unfold Rt1 at r ⊢
    rw [mrg_ge (show ¬ 704 < 6 by decide), mrg_ge (show ¬ 705 < 6 by decide), mrg_ge (show ¬ 706 < 6 by decide), mrg_ge (show ¬ 707 < 6 by decide), mrg_ge (show ¬ 708 < 6 by decide), mrg_ge (show ¬ 709 < 6 by decide), mrg_ge (show ¬ 710 < 6 by decide), mrg_ge (show ¬ 711 < 6 by decide), mrg_ge (show ¬ 712 < 6 by decide), mrg_ge (show ¬ 713 < 6 by decide), mrg_ge (show ¬ 715 < 6 by decide), mrg_ge (show ¬ 716 < 6 by decide), mrg_ge (show ¬ 717 < 6 by decide), v1, v2, w1, w2, w3, bV 704 t 0 (by decide), bV 705 t 0 (by decide), bV 706 t 0 (by decide), bV 707 t 0 (by decide), bV 708 t 0 (by decide), bV 709 t 0 (by decide), bV 710 t 0 (by decide), bV 712 t 0 (by decide), bV 713 t 0 (by decide), bV 716 t 0 (by decide), bV 717 t 0 (by decide), aW 4900 0 t (by decide), aW 5000 0 t (by decide), aW 5100 0 t (by decide), aW 5200 0 t (by decide), aW 5300 0 t (by decide), aW 5400 0 t (by decide), aW 5500 0 t (by decide), aW 5600 0 t (by decide), aW 5800 0 t (by decide), aW 6100 0 t (by decide)]
    obtain ⟨b1, b2, b3, b4, b5, b6, b7, b8, b9, b10, b11, b12⟩ := r
    exact ⟨b1, b2, b3, b4, b5, b6, b7, b8.trans h48, b9, b10, Or.inl ⟨rfl, rfl, w, hw0, hw, rfl, rfl⟩, fun q => absurd q (by decide)⟩
  · rw [w1, w2, w3]
    refine ⟨fun q => ?_, fun _ _ => rfl, fun q => ?_⟩
    · rcases q with q | q
      · exact absurd q (by decide)
      · exact absurd q (by decide)
    · rcases q with q | q
      · exact absurd q (by decide)
      · exact absurd q.2 (nI_ne0 (by omega) (by omega))
  · obtain ⟨o, ho, e53⟩ := h2.2.2.2.2
    refine Tm_state (t := t) (o := o) h2 (Nat.le_refl _) (by omega) (aV.sub (by decide)) (aW.sub (by decide)) (fun c hc u he => g0 c u (by revert c; decide) he) (fun c _ u he => wo c u he) (by omega) ?_ ?_ (fun q => absurd (w1.symm.trans q) (by decide))
    · rw [aW 1053 0 0 (by decide)]; exact e53
    · rw [aW 1053 0 0 (by decide)]; exact Int32.le_refl _
theorem NewC_agr {kb p w : Nat} {R : Nat → Bool} {V V' : HV} (h : NewC kb p w R V V') : agr [303, 304, 2300, 2400, 2500, 2600] V V' := h.1
theorem op_alloc {kb T Tw t : Nat} {Y : HV} {l : List Ob} {V W : HV} {x : Int32} (hT1 : Tw ≤ T) (hT2 : T < 1073741824) (h : QS kb T Tw t Y l V W) (hst : V 711 t 0 = 0) (hx : V 0 (17 * t + 10) 0 = x) (hz : cM W (17 * t + 10) = nm 0) : ∃ V' W', f_X7_allocate kb 0 t V = some V' ∧ f_X12_alloc 0 x W = some W' ∧ QR kb T t Y V' W' := by
  have h6 := QS_t6 h
  obtain ⟨hH, hkb, hhp, h10, h54, hmk⟩ := QS_heap h
  have hQ := QS_up h hT1 (by omega)
  have R10 : f_X9_reg t 10 = 17 * t + 10 := reg_C' (d := 10) (by decide)
  have w80 : W 1080 0 0 = nI t := by obtain ⟨V0, f, -, -, -, h5, -⟩ := h; exact h5
  have hcl : QR kb T t Y (kC V (17 * t + 10) (nm 0)) W := ⟨l, QS_10' hQ, by rw [(kC_U V _ _).1, up_at, hz], by rw [hz]; exact fil_nm _ _ _, by rw [hz]; exact gd_num _ _ _⟩
  have hb : f_X4_bytes kb 0 V = nI (16 * (64 * kb - hp Y)) := by
    unfold f_X4_bytes
    rw [hH.2.1.1, ofNat_nI, nI_sub (by omega), show (16 : Int32) = nI 16 from rfl, pk_mul, Nat.mul_comm]
  unfold f_X7_allocate f_X12_alloc
  rw [lt_def, R10, hx, unsigned_pl, jn_def, lt_def, clear_C, lt_def, hb, h10, h54, nI_sub (show 16 * hp Y ≤ 1024 * kb by omega), show 1024 * kb - 16 * hp Y = 16 * (64 * kb - hp Y) by omega]
  by_cases hn : x < 0
  · have hu := neg_uN.mp hn
    rw [if_pos (show x < 1 from Int32.lt_trans hn (by decide)), if_neg (fun q => by
      rw [lg_cmp_lt, show (1 : Int64) = pl 1 by decide, pl_lt, show uN 1 = 1 by decide] at q
      omega), if_neg (fun q => by
      rw [lg_cmp_le, Int64.le_iff_toInt_le, pl_toInt, nI64_toInt (by omega)] at q
      omega)]
    exact ⟨_, _, rfl, rfl, hcl⟩
  · obtain ⟨n, hn31, rfl⟩ := nI_of hn
    by_cases n0 : n = 0
    · rw [n0, if_pos (show nI 0 < 1 by decide), if_pos (show lg_cmp (pl (nI 0)) 1 < 0 by rw [lg_cmp_lt]; decide)]
      exact ⟨_, _, rfl, rfl, hcl⟩
    · rw [if_neg (show ¬ nI n < 1 from nI_nlt (b := 1) (by omega) hn31), if_neg (fun q => by
        rw [lg_cmp_lt, show (1 : Int64) = pl 1 by decide, pl_lt, show uN 1 = 1 by decide, uN_nI (by omega)] at q
        omega)]
      by_cases hbig : n ≤ 16 * (64 * kb - hp Y)
      · rw [if_pos (by
          rw [lg_cmp_le, Int64.le_iff_toInt_le, pl_toInt, nI64_toInt (by omega), uN_nI (by omega)]
          omega), if_pos (nI_le hbig (by omega))]
        have eg : ((((pl (nI n) + (16 : Int64)) - (1 : Int64)) / (16 : Int64)).toInt32) = nI ((n + 15) / 16) := by
          have e1 : pl (nI n) = lN n := by
            apply Int64.toInt_inj.mp
            rw [pl_toInt, uN_nI (by omega), lN_toInt (by omega)]
          have e2 : lN n + (16 : Int64) - (1 : Int64) = lN (n + 15) := by
            apply Int64.toInt_inj.mp
            have q1 : ((n : Int) + 16).bmod (2 ^ 64) = (n : Int) + 16 := Int.bmod_eq_of_le (by omega) (by omega)
            rw [lN_toInt (by omega), Int64.toInt_sub, Int64.toInt_add, lN_toInt (by omega), show (16 : Int64).toInt = 16 by decide, show (1 : Int64).toInt = 1 by decide, q1, Int.bmod_eq_of_le (by omega) (by omega)]
            omega
          rw [e1, e2, show (16 : Int64) = lN 16 by decide, pk_lDiv (by omega) (by decide) (by decide)]
          apply Int32.toInt_inj.mp
          rw [Int64.toInt_toInt32, lN_toInt (by omega), nI_toInt (by omega), Int.bmod_eq_of_le (by omega) (by omega)]
        have ew : ((nI n + 15) / 16) * 16 = nI (16 * ((n + 15) / 16)) := by
          rw [show (15 : Int32) = nI 15 from rfl, nI_add, dv16 (by omega), show (16 : Int32) = nI 16 from rfl, pk_mul, Nat.mul_comm]
        rw [chk_t (show ¬ (16 : Int64) = 0 by decide), lt_def, eg, lt_def, ew, w80]
        generalize hw : (n + 15) / 16 = w
        have hw0 : 0 < w := by omega
        have hwk : w ≤ 64 * kb := by omega
        obtain ⟨g1, g2⟩ := grant_C (i := 17 * t + 10) (R := fun g => i2b (W 2300 0 g)) hkb hw0 (by omega) hH.1 hH.2.1.1 (fun g hg => (hH.2.1.2.1 g hg).1) (fun g hg => ⟨_, hmk g hg⟩)
        obtain ⟨s1, s2⟩ := gets_M (u := t) hkb hw0 (by omega) h6 hH.1 hH.2.2.1 h10 h54
        by_cases hf : fi w (64 * kb) (hp Y) l = none
        · rw [g1 hf, s1 hf, bnd_some, bnd_some, if_neg (show ¬ false = true by decide), if_neg (show ¬ false = true by decide), anyF_M hkb hH.1 hH.2.2.1, bnd_some]
          have e305 : (kC V (17 * t + 10) (nm 0)) 305 0 0 = nI (hld l) := ((kC_U V _ _).2 305 0 0 (by decide)).trans hH.2.1.2.2.2.2
          have hh : hld l ≤ 64 * kb := by
            have key : ∀ (l : List Ob) (lo : Nat), srt (64 * kb) lo l → lo + hld l ≤ 64 * kb := by
              intro l
              induction l with
              | nil => intro lo hl; exact hl
              | cons o l ih =>
                intro lo hl
                have := ih _ hl.2.2.2
                have := hl.1
                rw [show hld (o :: l) = (if o.2.2 = 1 then 0 else o.2.1) + hld l from rfl]
                by_cases q : o.2.2 = 1
                · rw [if_pos q]; omega
                · rw [if_neg q]; omega
            have := key l _ hH.1
            omega
          by_cases hq : 0 < hld l
          · rw [decide_eq_true hq, if_pos rfl, if_neg (show ¬ (kC V (17 * t + 10) (nm 0)) 305 0 0 ≤ 0 by rw [e305]; exact nI_nle hq (by omega))]
            obtain ⟨d1, d2, d3, d4⟩ := hH.2.2.2.1
            have e307 : (kC V (17 * t + 10) (nm 0)) 307 0 0 = W 1061 0 0 := ((kC_U V _ _).2 307 0 0 (by decide)).trans d1
            have e308 : (kC V (17 * t + 10) (nm 0)) 308 0 0 = V 308 0 0 := (kC_U V _ _).2 308 0 0 (by decide)
            have ev : (i2b (V 308 0 0) || (if 0 ≤ W 1061 0 0 then (false) else (true) : Bool)) = (if (i2b (W 1060 0 0)) = true then (true) else (if (W 1061 0 0) = (-1) then (true) else (false)) : Bool) := by
              rw [d3]
              cases hq3 : i2b (W 1060 0 0) with
              | true => rw [Bool.true_or, if_pos rfl]
              | false =>
                rw [Bool.false_or, if_neg (show ¬ false = true by decide)]
                rcases d4 with d4 | ⟨s, hs4, d4⟩
                · rw [d4, if_pos rfl, if_neg (by decide)]
                · rw [d4, if_neg (m1_ne _ (by omega)), if_pos (nI_pos' (by omega))]
            have eW : ∀ x1 x2 x3 : Int32, (sv (sv (sv W 1060 0 0 x1) 6300 0 t x2) 4700 0 t x3) 1080 0 0 = nI t := fun x1 x2 x3 => by rw [sv_col (by decide), sv_col (by decide), sv_col (by decide)]; exact w80
            have i6 : inb (nI t) 6 := inb_nI h6 (by decide)
            have ev2 : (i2b ((kC V (17 * t + 10) (nm 0)) 308 0 0) || (if 0 ≤ (kC V (17 * t + 10) (nm 0)) 307 0 0 then (false) else (true) : Bool)) = (if (i2b (W 1060 0 0)) = true then (true) else (if (W 1061 0 0) = (-1) then (true) else (false)) : Bool) := by
              simp only [e307, e308]
              exact ev
            dsimp only
            rw [lt_def, lt_def, lt_def, lt_def, ev2, lt_def, lt_def, sv_col (show ¬ 1080 = 1060 by decide), w80, chk_t i6, lt_def, cl_nI (by omega), sv_col (show ¬ 1080 = 6300 by decide), sv_col (show ¬ 1080 = 1060 by decide), w80, chk_t i6, lt_def, cl_nI (by omega), eW, chk_t i6, lt_def, cl_nI (by omega)]
            have q1 := QS_ask (b := (if (i2b (W 1060 0 0)) = true then (true) else (if (W 1061 0 0) = (-1) then (true) else (false)) : Bool)) (Nat.le_refl T) (by omega) (QS_10' (y := nm 0) hQ)
            have q2 := QS_slp (w := w) hT2 hw0 (by omega) q1 (by rw [sv_col (by decide), (kC_U V _ _).2 711 t 0 (by decide)]; exact hst)
            refine ⟨_, _, rfl, rfl, l, q2, ?_, ?_, ?_⟩
            · rw [cC_fr ((agr_sv _ 308 0 0 _).app ((agr_sv _ 715 t 0 _).app (agr_sv _ 711 t 0 _))) (by decide), (kC_U V _ _).1, up_at, cM_fr ((agr_sv _ 1060 0 0 _).app ((agr_sv _ 6300 0 t _).app ((agr_sv _ 4700 0 t _).app (agr_sv _ 4800 0 t _)))) (by decide), hz]
            · rw [cM_fr ((agr_sv _ 1060 0 0 _).app ((agr_sv _ 6300 0 t _).app ((agr_sv _ 4700 0 t _).app (agr_sv _ 4800 0 t _)))) (by decide), hz]; exact fil_nm _ _ _
            · rw [cM_fr ((agr_sv _ 1060 0 0 _).app ((agr_sv _ 6300 0 t _).app ((agr_sv _ 4700 0 t _).app (agr_sv _ 4800 0 t _)))) (by decide), hz]; exact gd_num _ _ _
          · rw [decide_eq_false hq, if_neg (show ¬ false = true by decide), if_pos (show (kC V (17 * t + 10) (nm 0)) 305 0 0 ≤ 0 by rw [e305, show hld l = 0 by omega]; decide)]
            exact ⟨_, _, rfl, rfl, hcl⟩
        · obtain ⟨V', c1, c2⟩ := g2 hf
          obtain ⟨W', m1, m2⟩ := s2 hf
          rw [c1, m1, bnd_some, bnd_some, if_pos rfl, if_pos rfl]
          obtain ⟨n1, n2⟩ := gd_new hkb hw0 hH.1 hf
          have hQ' : QS kb T T t Y (ins w (hp Y) l) V' W' := by
            refine QS_colL h c2.1 m2.1 (by decide) (by decide) (fun V0 hu a1 a2 a4 => ?_)
            obtain ⟨b1, b2⟩ := ST_new a1 a4 hw0 hf (NewC_mrg hu c2) m2
            exact ⟨b1, Tm_fr (mrg_agr (f := cC V) ⟨rfl, hu⟩ c2.1) m2.1 (by decide) (by decide) (Tm_up a2 hT1 (by omega)), b2⟩
          have e1 : cM (kM W' (17 * t + 10) (ncap (ft w (hp Y) l).1 w)) (17 * t + 10) = ncap (ft w (hp Y) l).1 w := by rw [(kM_U _ _ _).1, up_at]
          refine ⟨_, _, rfl, rfl, ins w (hp Y) l, QS_10 hQ' (gd_lv n1), ?_, ?_, ?_⟩
          · rw [e1, (kC_U _ _ _).1, up_at]
          · rw [e1]; exact n2
          · rw [e1]; exact n1
      · rw [if_neg (fun q => by
          rw [lg_cmp_le, Int64.le_iff_toInt_le, pl_toInt, nI64_toInt (by omega), uN_nI (by omega)] at q
          omega), if_neg (fun q => hbig ((nI_leI hn31 (by omega)).mp q))]
        exact ⟨_, _, rfl, rfl, hcl⟩
