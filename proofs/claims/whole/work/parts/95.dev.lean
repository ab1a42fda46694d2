/-! the device -/
theorem dv_L {L : Nat} {K : HV → Option (Int32 × HV)} (hL : L < 64) : ∀ (r k f : Nat) (W : HV), k + r = L → r < f → W 1064 0 0 = nI L → ∃ W', f_X12_device_L55 0 K f (nI k) W = K W' ∧ (∀ j, W' 8300 0 j = if k ≤ j ∧ j < L then W 8300 0 (j + 1) else W 8300 0 j) ∧ agr [8300] W W'
  | 0, k, 0, _, _, hf, _ => absurd hf (by omega)
  | r + 1, k, 0, _, _, hf, _ => absurd hf (by omega)
  | 0, k, f + 1, W, hk, _, h => by
    unfold f_X12_device_L55
    rw [h, if_pos (nI_le (by omega) (by omega))]
    exact ⟨W, rfl, fun j => by rw [if_neg (by omega)], (agr_rfl W).sub (by decide)⟩
  | r + 1, k, f + 1, W, hk, hf, h => by
    unfold f_X12_device_L55
    rw [h, if_neg (fun q => by have := (nI_leI (by omega) (by omega)).mp q; omega), nI_1, chk_t (inb_nI (by omega) (by decide)), chk_t (inb_nI (by omega) (by decide)), lt_def, lt_def, cl_nI (by omega), cl_nI (by omega)]
    obtain ⟨W', e1, e2, e3⟩ := dv_L hL r (k + 1) f (sv W 8300 0 k (W 8300 0 (k + 1))) (by omega) (by omega) ((sv_col (by decide)).trans h)
    refine ⟨W', e1, fun j => ?_, ((agr_sv W 8300 0 k _).trans e3)⟩
    rw [e2 j]
    by_cases h1 : j = k
    · subst h1
      rw [if_neg (by omega), if_pos (by omega), sv_at]
    · by_cases h2 : k + 1 ≤ j ∧ j < L
      · rw [if_pos h2, if_pos (by omega), sv_ne (by omega)]
      · rw [if_neg h2, if_neg (by omega), sv_ne (by omega)]
theorem dev_rd {kb t : Nat} {V W : HV} {A : Int32} (hs : Rs V W) (h : Ri V W) (h7 : V 700 t 0 = nI t) (h80 : W 1080 0 0 = nI t) : ∃ v V1 W1, f_X10_readDevice kb 0 t A V = some (v, V1) ∧ f_X12_device 0 (A - 268435456) W = some (v, W1) ∧ Ri V1 W1 ∧ agr [501, 502] V V1 ∧ agr [1064, 8300] W W1 := by
  unfold f_X10_readDevice f_X12_device
  generalize A - 268435456 = B
  have same : ∀ v : Int32, ∃ v' V1 W1, some (v, V) = some (v', V1) ∧ some (v, W) = some (v', W1) ∧ Ri V1 W1 ∧ agr [501, 502] V V1 ∧ agr [1064, 8300] W W1 := fun v => ⟨v, V, W, rfl, rfl, h, (agr_rfl V).sub (by decide), (agr_rfl W).sub (by decide)⟩
  by_cases b0 : B = 0
  · rw [if_pos b0, if_neg (show ¬ B = 4 by rw [b0]; decide), if_neg (show ¬ B = 8 by rw [b0]; decide), if_pos b0]
    obtain ⟨⟨L, F, a1, a2, a3, a4, a5, a6⟩, L2, F2, G2, b1, b2, b3, b4, b5, b6, b7, b8⟩ := id h
    cases L with
    | zero =>
      rw [if_pos (by rw [a4]; rfl)]
      have e : f_X6_pull kb 0 V = some (-1, V) := by
        unfold f_X6_pull
        rw [if_pos (by rw [a3]; decide)]
      rw [e, bnd_some]
      exact same (-1)
    | succ L =>
      rw [if_neg (by rw [a4]; exact nI_ne0 (by omega) (by omega)), pull_C (N := 64) rfl (by decide) a2 (by omega) a5 a3, bnd_some, chk_t (show inb (0 : Int32) 64 from inb_nI (k := 0) (by decide) (by decide)), lt_def, lt_def, jn_def, a4, nI_pred]
      obtain ⟨W', e1, e2, e3⟩ := dv_L (K := fun V10 => some (W 8300 0 (0 : Int32).toNatClampNeg, V10)) (show L < 64 by omega) L 0 FU (sv W 1064 0 0 (nI L)) (by omega) (FU_gt (by omega)) (sv_at _ _ _ _ _)
      refine ⟨V 2000 0 F &&& 255, sv (sv V 501 0 0 (nI ((F + 1) % 64))) 502 0 0 (nI L), W', rfl, ?_, ⟨⟨L, (F + 1) % 64, by omega, Nat.mod_lt _ (by decide), by simp [sv], ?_, by simp [sv], fun k hk => ?_⟩, L2, F2, G2, b1, b2, b3, by simp [sv, b4], ?_, by simp [sv, b6], ?_, fun k hk => ?_⟩, ((agr_sv _ _ _ _ _).app (agr_sv _ _ _ _ _)).sub (by decide), ((agr_sv _ _ _ _ _).app e3).sub (by decide)⟩
      · have e4 : W 8300 0 (0 : Int32).toNatClampNeg = V 2000 0 F &&& 255 := by
          have := a6 0 (by omega)
          rw [Nat.add_zero, Nat.mod_eq_of_lt a2] at this
          exact this.symm
        rw [e4] at e1 ⊢
        exact e1
      · rw [e3 1064 0 0 (by decide), sv_at]
      · have e5 : (sv (sv V 501 0 0 (nI ((F + 1) % 64))) 502 0 0 (nI L)) 2000 0 (((F + 1) % 64 + k) % 64) = V 2000 0 ((F + (k + 1)) % 64) := by
          rw [sv_col (by decide), sv_col (by decide)]
          congr 1
          omega
        rw [e5, a6 (k + 1) (by omega), e2 k, if_pos (by omega), sv_col (by decide)]
      · rw [e3 1067 0 0 (by decide), sv_col (by decide)]; exact b5
      · rw [e3 1066 0 0 (by decide), sv_col (by decide)]; exact b7
      · rw [e3 8500 0 _ (by decide), sv_col (by decide), sv_col (by decide), sv_col (by decide)]
        exact b8 k hk
  · rw [if_neg b0]
    by_cases b4 : B = 4
    · rw [if_pos b4, if_pos b4, hs.2.2.2.1]
      exact same _
    · rw [if_neg b4, if_neg b4]
      by_cases b8 : B = 8
      · rw [if_pos b8, if_pos b8, h7, h80]
        exact same _
      · rw [if_neg b8, if_neg b8, if_neg b0]
        exact same _
theorem b8and (x : Int32) : x.toInt8.toInt32 &&& 255 = x &&& 255 := by
  have e : x.toInt8.toInt32 = byt x 0 := lft_byt x (k := 0) (by decide)
  rw [e]
  apply Int32.toBitVec_inj.mp
  apply BitVec.eq_of_getLsbD_eq
  intro i hi
  rw [byt_l x (by decide), Int32.toBitVec_and, BitVec.getLsbD_and]
  have key : ∀ i, i < 32 → (255 : Int32).toBitVec.getLsbD i = decide (i < 8) := by decide
  rw [key i hi, Bool.and_comm, show 8 * 0 + i = i by omega]
theorem wo_M {G L : Nat} {W : HV} {c : Int32} (hG : G < 500) (hL : L < 500) (h1 : W 1066 0 0 = nI G) (h2 : W 1067 0 0 = nI L) : f_X12_writesOut 0 c W = some (sv (sv W 8500 0 ((G + L) % 500) c) 1067 0 0 (nI (L + 1))) := by
  have hm : (G + L) % 500 < 500 := Nat.mod_lt _ (by decide)
  unfold f_X12_writesOut
  rw [jn_def, if_neg (show ¬ W 1067 0 0 = 500 by rw [h2]; exact fun q => absurd (nI_inj (b := 500) (by omega) (by decide) q) (by omega))]
  simp only [h1, h2, nI_add]
  rw [rem500 (by omega), chk_t (inb_nI hm (by decide)), lt_def, lt_def, cl_nI (by omega), sv_col (by decide), h2, nI_1]
theorem out_1 {kb L F G : Nat} {V W : HV} {v : Int32} (hi : ∃ L F : Nat, L ≤ 64 ∧ F < 64 ∧ V 502 0 0 = nI L ∧ W 1064 0 0 = nI L ∧ V 501 0 0 = nI F ∧ ∀ k, k < L → (V 2000 0 ((F + k) % 64)) &&& 255 = W 8300 0 k) (hL : L < 500) (hF : F < 500) (hG : G < 500) (a1 : V 502 1 0 = nI L) (a2 : W 1067 0 0 = nI L) (a3 : V 501 1 0 = nI F) (a4 : W 1066 0 0 = nI G) (a5 : ∀ k, k < L → (V 2000 1 ((F + k) % 500)) &&& 255 = W 8500 0 ((G + k) % 500)) : ∃ V1 W1, f_X6_push kb 1 v V = some V1 ∧ f_X12_writesOut 0 (v &&& 255) W = some W1 ∧ Ri V1 W1 ∧ agr [501, 502, 2000] V V1 ∧ agr [1066, 1067, 8500] W W1 := by
  rw [push_C (N := 500) rfl (by decide) hF hL a3 a1, wo_M hG hL a4 a2]
  refine ⟨_, _, rfl, rfl, ⟨?_, L + 1, F, G, by omega, hF, hG, by simp [sv], by simp [sv], by simp [sv, a3], by simp [sv, a4], fun k hk => ?_⟩, ((agr_sv _ _ _ _ _).app (agr_sv _ _ _ _ _)).sub (by decide), ((agr_sv _ _ _ _ _).app (agr_sv _ _ _ _ _)).sub (by decide)⟩
  · obtain ⟨L2, F2, b1, b2, b3, b4, b5, b6⟩ := hi
    refine ⟨L2, F2, b1, b2, by simp [sv, b3], by simp [sv, b4], by simp [sv, b5], fun k hk => ?_⟩
    rw [sv_col (by decide), sv_ne (by omega), sv_col (by decide), sv_col (by decide)]
    exact b6 k hk
  · by_cases hkL : k = L
    · subst hkL
      rw [sv_col (by decide), sv_at, sv_col (by decide), sv_at]
      exact b8and v
    · have n1 := mod_ne (F := F) (k := k) (L := L) (N := 500) (by omega) hL
      have n2 := mod_ne (F := G) (k := k) (L := L) (N := 500) (by omega) hL
      rw [sv_col (by decide), sv_ne (fun q => n1 q.2.2), sv_col (by decide), sv_ne (fun q => n2 q.2.2)]
      exact a5 k (by omega)
theorem out_wr {kb : Nat} {V W : HV} {v : Int32} (h : Ri V W) : ∃ V1 W1, f_X6_push kb 1 v V = some V1 ∧ f_X12_writesOut 0 (v &&& 255) W = some W1 ∧ Ri V1 W1 ∧ agr [501, 502, 2000] V V1 ∧ agr [1066, 1067, 8500] W W1 := by
  obtain ⟨hi, L, F, G, a0, a1, a2, a3, a4, a5, a6, a7⟩ := h
  by_cases hL : L = 500
  · subst hL
    have e1 : f_X6_push kb 1 v V = f_X6_push kb 1 v (sv (sv V 501 1 0 (nI ((F + 1) % 500))) 502 1 0 (nI 499)) := by
      unfold f_X6_push
      rw [jn_def, jn_def, if_neg (show ¬ V 502 1 0 < (Int32.ofNat (if 1 = 0 then 64 else 500)) by rw [a3]; decide), pull_C (N := 500) (L := 499) rfl (by decide) a1 (by decide) a5 a3, bnd_some, if_pos (show (sv (sv V 501 1 0 (nI ((F + 1) % 500))) 502 1 0 (nI 499)) 502 1 0 < (Int32.ofNat (if 1 = 0 then 64 else 500)) by rw [sv_at]; decide)]
    have e2 : f_X12_writesOut 0 (v &&& 255) W = f_X12_writesOut 0 (v &&& 255) (sv (sv W 1066 0 0 (nI ((G + 1) % 500))) 1067 0 0 (nI 499)) := by
      unfold f_X12_writesOut
      rw [jn_def, jn_def, if_pos (show W 1067 0 0 = 500 from a4), lt_def, lt_def, a6, nI_1, rem500 (by omega), sv_col (by decide), a4, show nI 500 - 1 = nI 499 from nI_pred 499, if_neg (show ¬ (sv (sv W 1066 0 0 (nI ((G + 1) % 500))) 1067 0 0 (nI 499)) 1067 0 0 = 500 by rw [sv_at]; decide)]
    rw [e1, e2]
    obtain ⟨V1, W1, q1, q2, q3, q4, q5⟩ := out_1 (kb := kb) (v := v) (V := sv (sv V 501 1 0 (nI ((F + 1) % 500))) 502 1 0 (nI 499)) (W := sv (sv W 1066 0 0 (nI ((G + 1) % 500))) 1067 0 0 (nI 499)) (L := 499) (F := (F + 1) % 500) (G := (G + 1) % 500) (by
      obtain ⟨L2, F2, b1, b2, b3, b4, b5, b6⟩ := hi
      refine ⟨L2, F2, b1, b2, by simp [sv, b3], by simp [sv, b4], by simp [sv, b5], fun k hk => ?_⟩
      rw [sv_col (by decide), sv_col (by decide), sv_col (by decide), sv_col (by decide)]
      exact b6 k hk) (by decide) (Nat.mod_lt _ (by decide)) (Nat.mod_lt _ (by decide)) (by simp [sv]) (by simp [sv]) (by simp [sv]) (by simp [sv]) (fun k hk => by
      rw [sv_col (by decide), sv_col (by decide), sv_col (by decide), sv_col (by decide)]
      have := a7 (k + 1) (by omega)
      rw [show ((F + 1) % 500 + k) % 500 = (F + (k + 1)) % 500 by omega, show ((G + 1) % 500 + k) % 500 = (G + (k + 1)) % 500 by omega]
      exact this)
    exact ⟨V1, W1, q1, q2, q3, (((agr_sv _ _ _ _ _).app (agr_sv _ _ _ _ _)).app q4).sub (by decide), (((agr_sv _ _ _ _ _).app (agr_sv _ _ _ _ _)).app q5).sub (by decide)⟩
  · exact out_1 hi (by omega) a1 a2 a3 a4 a5 a6 a7
theorem dev_eq (A : Int32) : f_X2_isDevice A = decide (268435456 ≤ uN A) := by
  unfold f_X2_isDevice
  rw [lt_def, lt_def, unsigned_pl, show (268435456 : Int64) = pl 268435456 by decide]
  by_cases h : lg_cmp (pl A) (pl 268435456) < 0
  · rw [if_pos h, decide_eq_false]
    have := pl_lt.mp ((lg_cmp_lt _ _).mp h)
    rw [show uN 268435456 = 268435456 by decide] at this
    omega
  · rw [if_neg h, decide_eq_true]
    have : ¬ uN A < uN 268435456 := fun q => h ((lg_cmp_lt _ _).mpr (pl_lt.mpr q))
    rw [show uN 268435456 = 268435456 by decide] at this
    omega
theorem dev_eqM (A : Int32) : f_X12_isDevice 0 A = decide (268435456 ≤ uN A) := dev_eq A
/-! filtered: nothing of a freed object -/
theorem sub_91 {p : Int32} (h : sub p 91) : p &&& 32 = 0 := by
  unfold sub at h
  have h2 := congrArg (fun z => z &&& (32 : Int32)) h
  simp only [Int32.and_assoc, Int32.zero_and] at h2
  exact h2
theorem gd_fl {kb lo : Nat} {Y : HV} {l : List Ob} {c : Cp} (hs : srt (64 * kb) lo l) (h : gd Y l c) : gd Y (lv l) (fil kb l c) := by
  refine ⟨h.1, h.2.1, fun q => ?_⟩
  have ng := fil_gone q
  have q' : (c.2.2.2.2.2 && !gnb kb l c) = true := q
  rw [Bool.and_eq_true] at q'
  have hc := h.2.2 q'.1
  refine ⟨hc.1, fun q2 => ?_⟩
  have r := hc.2 q2
  have q2' : uN c.2.1 < uN c.2.2.1 := q2
  show rgn Y (lv l) (uN c.2.1) (uN c.2.2.1) c.2.2.2.1
  rcases r with r | r | r | r | r | ⟨o, ho, r1, r2, r3⟩
  · exact Or.inl r
  · exact Or.inr (Or.inl r)
  · exact Or.inr (Or.inr (Or.inl r))
  · exact Or.inr (Or.inr (Or.inr (Or.inl r)))
  · exact Or.inr (Or.inr (Or.inr (Or.inr (Or.inl r))))
  · refine Or.inr (Or.inr (Or.inr (Or.inr (Or.inr ⟨o, ?_, r1, r2, r3⟩))))
    unfold lv
    rw [List.mem_filter]
    refine ⟨ho, decide_eq_true ?_⟩
    refine Classical.byContradiction fun hne => ng ⟨sub_91 r3, ?_, ?_⟩
    · have := srt_mem hs ho
      show uN c.2.1 < 1024 * kb
      omega
    · show rvk l (uN c.2.1 / 16) = true
      unfold rvk
      rw [List.any_eq_true]
      exact ⟨o, ho, decide_eq_true ⟨hne, by omega, by omega⟩⟩
