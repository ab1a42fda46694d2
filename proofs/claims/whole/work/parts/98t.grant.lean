/-! a new object -/
theorem srt_len {hi : Nat} : ∀ (l : List Ob) (lo : Nat), srt hi lo l → lo + l.length ≤ hi
  | [], lo, h => h
  | o :: l, lo, h => by
    have := srt_len l _ h.2.2.2
    have := h.1
    have := h.2.1
    simp only [List.length_cons]
    omega
theorem nI_sub {a b : Nat} (h : b ≤ a) : nI a - nI b = nI (a - b) := by
  have e2 : nI (a - b) + nI b = nI a := by rw [nI_add]; congr 1; omega
  rw [← e2, Int32.add_sub_cancel]
def ncap (p w : Nat) : Cp := (nI (16 * p), nI (16 * p), nI (16 * (p + w)), 91, 0, true)
def NewC (kb p w : Nat) (R : Nat → Bool) (V V' : HV) : Prop := agr [303, 304, 2300, 2400, 2500, 2600] V V' ∧ (∀ g, V' 2500 0 g = if g = p then nI w else V 2500 0 g) ∧ (∀ g, V' 2600 0 g = if g = p then 1 else V 2600 0 g) ∧ V' 303 0 0 = V 303 0 0 + 1 ∧ V' 304 0 0 = V 304 0 0 + nI w ∧ V' 2300 0 = zr (V 2300 0) (16 * p) (16 * (p + w)) ∧ V' 2400 0 = zg (V 2400 0) p (16 * (p + w)) (fun g => mk false (R g))
theorem grant_C {kb w i h : Nat} {l : List Ob} {R : Nat → Bool} {V : HV} (hkb : kb ≤ 32) (hw0 : 0 < w) (hw : w ≤ 2048) (hs : srt (64 * kb) h l) (h2 : V 302 0 0 = nI h) (hz : ∀ g, g < 64 * kb → V 2500 0 g = nI (lk l g).1) (hR : ∀ g, g < 64 * kb → ∃ t, V 2400 0 g = mk t (R g)) : (fi w (64 * kb) h l = none → f_X10_grant kb 0 (nI w) i V = some (false, kC V i (nm 0))) ∧ (¬ fi w (64 * kb) h l = none → ∃ V', f_X10_grant kb 0 (nI w) i V = some (true, kC V' i (ncap (ft w h l).1 w)) ∧ NewC kb (ft w h l).1 w R V V') := by
  have hrm := room_C hkb hw0 (by omega) hs h2 hz
  constructor
  · intro hf
    rw [hf] at hrm
    unfold f_X10_grant f_X4_reserve
    rw [hrm, bnd_some, lt_def]
    have hh : f_X4_has kb 0 (-1) V = false := by
      unfold f_X4_has
      rw [h2, if_pos (Int32.lt_of_lt_of_le m1_lt (nI_pos' (by have := srt_le hs; omega)))]
    rw [hh, if_neg (show ¬ false = true by decide), bnd_some, lt_def, if_neg (show ¬ (0 : Int32) ≤ (-1) * 16 by decide), lt_def, clear_C]
  · intro hf
    have hfi := fi_ft (hi := 64 * kb) hw0 l h
    have hp1 := ft_ge (w := w) l h hs
    have hp2 := ft_hi hw0 l h hs hf
    rw [hfi] at hf hrm
    generalize hP : (ft w h l).1 = p at *
    by_cases q : (ft w h l).2 = l.length ∧ ¬ p + w ≤ 64 * kb
    · rw [if_pos q] at hf; exact absurd rfl hf
    rw [if_neg q] at hrm
    have hrm' : f_X4_room kb 0 (nI w) V = some (nI p) := hrm
    have hh : f_X4_has kb 0 (nI p) V = true := by
      unfold f_X4_has
      rw [h2, if_neg (nI_nlt hp1 (by omega)), ofNat_nI, if_neg (fun q => by have := (nI_leI (by omega) (by omega)).mp q; omega)]
    have ip : inb (nI p) (64 * kb) := inb_nI (by omega) (by omega)
    unfold f_X10_grant f_X4_reserve
    rw [hrm', bnd_some, lt_def, hh, if_pos rfl, chk_t ip, lt_def, chk_t ip, lt_def, cl_nI (by omega), lt_def, lt_def, bnd_some, lt_def, show (16 : Int32) = nI 16 from rfl, pk_mul, pk_mul, if_pos (nI_pos' (by omega)), lt_def, nI_add]
    generalize hV9 : sv (sv (sv (sv V 2500 0 p (nI w)) 2600 0 p 1) 303 0 0 (sv (sv V 2500 0 p (nI w)) 2600 0 p 1 303 0 0 + 1)) 304 0 0 (sv (sv (sv V 2500 0 p (nI w)) 2600 0 p 1) 303 0 0 (sv (sv V 2500 0 p (nI w)) 2600 0 p 1 303 0 0 + 1) 304 0 0 + nI w) = V9
    have a9 : agr [303, 304, 2500, 2600] V V9 := by rw [← hV9]; exact ((((agr_sv _ _ _ _ _).app (agr_sv _ _ _ _ _)).app (agr_sv _ _ _ _ _)).app (agr_sv _ _ _ _ _)).sub (by decide)
    obtain ⟨V', x1, x2, x3, x4⟩ := erase_C (V := V9) (a := p) (b := p + w) (R := R) hkb (by omega) hp2 (fun g _ h2' => by rw [a9 2400 0 g (by decide)]; exact hR g (by omega))
    rw [show p * 16 = 16 * p by omega, show 16 * p + w * 16 = 16 * (p + w) by omega, x1, bnd_some, lt_def, set_C]
    refine ⟨V', rfl, (a9.app x4).sub (by decide), fun g => ?_, fun g => ?_, ?_, ?_, ?_, ?_⟩
    · rw [x4 2500 0 g (by decide), ← hV9, sv_col (by decide), sv_col (by decide), sv_col (by decide)]
      by_cases e : g = p
      · rw [if_pos e, e, sv_at]
      · rw [if_neg e, sv_ne (fun q => e q.2.2)]
    · rw [x4 2600 0 g (by decide), ← hV9, sv_col (by decide), sv_col (by decide)]
      by_cases e : g = p
      · rw [if_pos e, e, sv_at]
      · rw [if_neg e, sv_ne (fun q => e q.2.2), sv_col (by decide)]
    · rw [x4 303 0 0 (by decide), ← hV9, sv_col (by decide), sv_at, sv_col (by decide), sv_col (by decide)]
    · rw [x4 304 0 0 (by decide), ← hV9, sv_at, sv_col (by decide), sv_col (by decide), sv_col (by decide)]
    · rw [x2, show V9 2300 0 = V 2300 0 from funext fun j => a9 2300 0 j (by decide)]
    · rw [x3, show V9 2400 0 = V 2400 0 from funext fun j => a9 2400 0 j (by decide)]
def NewM (p w : Nat) (l' : List Ob) (W W' : HV) : Prop := agr [1055, 2100, 2200, 7600, 7700, 7800, 7900] W W' ∧ HpM l' W' ∧ W' 2100 0 = zr (W 2100 0) (16 * p) (16 * (p + w)) ∧ W' 2200 0 = zg (W 2200 0) p (16 * (p + w)) (fun _ => 0)
theorem gets_M {kb w u h : Nat} {l : List Ob} {W : HV} (hkb : kb ≤ 32) (hw0 : 0 < w) (hw : w ≤ 2048) (hu : u < 6) (hs : srt (64 * kb) h l) (hM : HpM l W) (h10 : W 1000 0 0 = nI (1024 * kb)) (h54 : W 1054 0 0 = nI (16 * h)) : (fi w (64 * kb) h l = none → f_X12_gets 0 (nI u) (nI (16 * w)) W = some (false, W)) ∧ (¬ fi w (64 * kb) h l = none → ∃ W', f_X12_gets 0 (nI u) (nI (16 * w)) W = some (true, kM W' (17 * u + 10) (ncap (ft w h l).1 w)) ∧ NewM (ft w h l).1 w (ins w h l) W W') := by
  have hlen := srt_len l h hs
  have hle := ft_le (w := w) l h
  have hp1 := ft_ge (w := w) l h hs
  have M10 : f_X12_reg (nI u) 10 = nI (17 * u + 10) := reg_M' u 10
  have hT : ∀ K, f_X12_takes_L7 0 (nI (16 * w)) W K FU (nI (16 * h)) 0 = K (nI (16 * (ft w h l).1)) (nI (ft w h l).2) := by
    intro K
    have := tk_L (w := w) (W := W) (K := K) (hi := 64 * kb) (by omega) (by omega) l 0 h FU hs (fun i o hi => by
      rw [Nat.zero_add]
      exact ⟨(hM.2 i o hi).1, (hM.2 i o hi).2.1⟩) (by rw [Nat.zero_add]; exact hM.1) (by omega) (FU_gt (by omega))
    rw [Nat.zero_add] at this
    exact this
  have hfi := fi_ft (hi := 64 * kb) hw0 l h
  have hsub : ∀ p, p ≤ 64 * kb → nI (1024 * kb) - nI (16 * p) = nI (1024 * kb - 16 * p) := fun p hp => nI_sub (by omega)
  have hpk : (ft w h l).1 ≤ 64 * kb := by
    clear hT hfi
    have key : ∀ (l : List Ob) (p : Nat), srt (64 * kb) p l → (ft w p l).1 ≤ 64 * kb := by
      intro l
      induction l with
      | nil => intro p hp; exact hp
      | cons o l ih =>
        intro p hp
        unfold ft
        by_cases q : p + w ≤ o.1
        · rw [if_pos q]
          have := srt_le hp.2.2.2
          simp
          omega
        · rw [if_neg q]
          exact ih _ hp.2.2.2
    exact key l h hs
  constructor
  · intro hf
    rw [hfi] at hf
    by_cases q : (ft w h l).2 = l.length ∧ ¬ (ft w h l).1 + w ≤ 64 * kb
    · unfold f_X12_gets f_X12_takes
      rw [lt_def, h54, jn_def, hT]
      rw [jn_def, hM.1, if_pos (by rw [q.1]), h10, hsub _ hpk, if_neg (fun z => by have := (nI_leI (by omega) (by omega)).mp z; omega), bnd_some, lt_def, if_pos rfl]
    · rw [if_neg q] at hf
      exact absurd hf (by simp)
  · intro hf
    have hp2 := ft_hi hw0 l h hs hf
    have hS' := ins_srt hw0 l h hs hf
    have hlen' := srt_len _ _ hS'
    rw [ins_len] at hlen'
    obtain ⟨W11, s1, s2, s3⟩ := sf_L (k := (ft w h l).2) (l.length - (ft w h l).2) FU W (by omega) (FU_gt (by omega))
    rw [show (ft w h l).2 + (l.length - (ft w h l).2) = l.length by omega] at s1 s3
    have hget : ∀ j, (ins w h l)[j]? = if j < (ft w h l).2 then l[j]? else if j = (ft w h l).2 then some ((ft w h l).1, w, 1) else l[j - 1]? := fun j => ins_get
    have hq : ¬ ((ft w h l).2 = l.length ∧ ¬ (ft w h l).1 + w ≤ 64 * kb) := fun z => z.2 hp2
    have hil := ins_len w h l
    generalize ins w h l = l' at *
    generalize (ft w h l).1 = p at *
    generalize (ft w h l).2 = k at *
    have ik : inb (nI k) 2049 := inb_nI (by omega) (by decide)
    generalize hW20 : sv (sv (sv (sv (sv W11 1055 0 0 (nI (l.length + 1))) 7600 0 k (nI (16 * p))) 7700 0 k (nI (16 * w))) 7800 0 k (b2i false)) 7900 0 k (b2i false) = W20
    have a20 : agr [1055, 7600, 7700, 7800, 7900] W11 W20 := by rw [← hW20]; exact ((((agr_sv _ _ _ _ _).app (agr_sv _ _ _ _ _)).app (agr_sv _ _ _ _ _)).app (agr_sv _ _ _ _ _)).app (agr_sv _ _ _ _ _)
    obtain ⟨W', x1, x2, x3, x4⟩ := wipe_M (W := W20) (a := p) (b := p + w) (by omega) (by omega)
    have h55 : W11 1055 0 0 = nI l.length := (s2 1055 0 0 (by decide)).trans hM.1
    have htk : f_X12_takes 0 (nI (16 * w)) W = some (nI (16 * p), W') := by
      unfold f_X12_takes
      rw [lt_def, h54, jn_def, hT]
      have body : (lt (W 1055 0 0) fun v8 => jn (fun V11 =>
        lt (sv V11 1055 0 0 ((V11 1055 0 0) + 1)) fun V12 =>
        chk (inb (nI k) 2049) <|
        lt (sv V12 7600 0 (nI k).toNatClampNeg (nI (16 * p))) fun V14 =>
        chk (inb (nI k) 2049) <|
        lt (sv V14 7700 0 (nI k).toNatClampNeg (nI (16 * w))) fun V16 =>
        chk (inb (nI k) 2049) <|
        lt (sv V16 7800 0 (nI k).toNatClampNeg (b2i false)) fun V18 =>
        chk (inb (nI k) 2049) <|
        lt (sv V18 7900 0 (nI k).toNatClampNeg (b2i false)) fun V20 =>
        bnd (f_X12_wipe 0 (nI (16 * p)) (nI (16 * p) + nI (16 * w)) V20) fun p21 =>
        some (nI (16 * p), p21)) fun k9 =>
        f_X12_takes_L73 (nI k) k9 FU v8 W) = some (nI (16 * p), W') := by
        rw [lt_def, jn_def, hM.1, s1, lt_def, h55, nI_1, chk_t ik, lt_def, chk_t ik, lt_def, chk_t ik, lt_def, chk_t ik, lt_def, cl_nI (by omega), hW20, nI_add, show 16 * p + 16 * w = 16 * (p + w) by omega, x1, bnd_some]
      rw [jn_def]
      by_cases e : k = l.length
      · rw [if_pos (by rw [hM.1, e]), h10, hsub p hpk, if_pos (nI_le (by omega) (by omega))]
        exact body
      · rw [if_neg (fun z => by rw [hM.1] at z; exact e (nI_inj (by omega) (by omega) z))]
        exact body
    refine ⟨W', ?_, ((s2.app a20).app x4).sub (by decide), ⟨?_, fun j o hj => ?_⟩, ?_, ?_⟩
    · unfold f_X12_gets
      rw [htk, bnd_some, lt_def, if_neg (m1_ne _ (by omega)), lt_def, M10, nI_add, make_M (by omega), bnd_some, show 16 * p + 16 * w = 16 * (p + w) by omega]
      rfl
    · rw [x4 1055 0 0 (by decide), ← hW20, sv_col (by decide), sv_col (by decide), sv_col (by decide), sv_col (by decide), sv_at, hil]
    · rw [hget] at hj
      rw [x4 7600 0 j (by decide), x4 7700 0 j (by decide), x4 7800 0 j (by decide), x4 7900 0 j (by decide)]
      by_cases e : j = k
      · rw [if_neg (by omega), if_pos e] at hj
        rw [← Option.some.inj hj, e, ← hW20]
        refine ⟨?_, ?_, ?_, ?_⟩
        · rw [sv_col (by decide), sv_col (by decide), sv_col (by decide), sv_at]
        · rw [sv_col (by decide), sv_col (by decide), sv_at]
        · rw [sv_col (by decide), sv_at, i2b_b2i]; rfl
        · rw [sv_at, i2b_b2i]; rfl
      · have g1 : W20 7600 0 j = W11 7600 0 j := by rw [← hW20, sv_col (by decide), sv_col (by decide), sv_col (by decide), sv_ne (fun q => e q.2.2), sv_col (by decide)]
        have g2 : W20 7700 0 j = W11 7700 0 j := by rw [← hW20, sv_col (by decide), sv_col (by decide), sv_ne (fun q => e q.2.2), sv_col (by decide), sv_col (by decide)]
        have g3 : W20 7800 0 j = W11 7800 0 j := by rw [← hW20, sv_col (by decide), sv_ne (fun q => e q.2.2), sv_col (by decide), sv_col (by decide), sv_col (by decide)]
        have g4 : W20 7900 0 j = W11 7900 0 j := by rw [← hW20, sv_ne (fun q => e q.2.2), sv_col (by decide), sv_col (by decide), sv_col (by decide), sv_col (by decide)]
        rw [g1, g2, g3, g4]
        obtain ⟨z1, z2, z3, z4⟩ := s3 j
        by_cases q : j < k
        · rw [if_pos q] at hj
          rw [if_neg (by omega)] at z1 z2 z3 z4
          rw [z1, z2, z3, z4]
          exact hM.2 j o hj
        · rw [if_neg q, if_neg e] at hj
          have hjl : j - 1 < l.length := by
            rcases List.getElem?_eq_some_iff.mp hj with ⟨z, _⟩
            exact z
          rw [if_pos (by omega)] at z1 z2 z3 z4
          rw [z1, z2, z3, z4]
          exact hM.2 (j - 1) o hj
    · rw [x2, show W20 2100 0 = W 2100 0 from funext fun j => (a20 2100 0 j (by decide)).trans (s2 2100 0 j (by decide))]
    · rw [x3, show W20 2200 0 = W 2200 0 from funext fun j => (a20 2200 0 j (by decide)).trans (s2 2200 0 j (by decide))]
