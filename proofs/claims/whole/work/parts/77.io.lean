/-! rings -/
theorem at_C {kb N x : Nat} {o0 : Nat} {V : HV} (hN : (if o0 = 0 then 64 else 500) = N) (hx : x < 2 * N) (h500 : N ≤ 500) : f_X6_at kb o0 (nI x) V = nI (x % N) := by
  unfold f_X6_at
  rw [hN, ofNat_nI]
  by_cases h : x < N
  · rw [if_pos ((nI_ltI (by omega) (by omega)).mpr h), Nat.mod_eq_of_lt h]
  · rw [if_neg (fun q => h ((nI_ltI (by omega) (by omega)).mp q)), pk_sub (by omega)]
    congr 1
    rw [Nat.mod_eq_sub_mod (by omega), Nat.mod_eq_of_lt (by omega)]
theorem push_C {kb N F L o0 : Nat} {V : HV} {x : Int32} (hN : (if o0 = 0 then 64 else 500) = N) (h500 : N ≤ 500) (hF : F < N) (hL : L < N) (h1 : V 501 o0 0 = nI F) (h2 : V 502 o0 0 = nI L) : f_X6_push kb o0 x V = some (sv (sv V 2000 o0 ((F + L) % N) (x.toInt8.toInt32)) 502 o0 0 (nI (L + 1))) := by
  have hm : (F + L) % N < N := Nat.mod_lt _ (by omega)
  unfold f_X6_push
  simp only [jn_def, lt_def]
  rw [hN, ofNat_nI, h1, h2, if_pos ((nI_ltI (by omega) (by omega)).mpr hL), nI_add, at_C hN (by omega) h500, if_neg (nI_pos (by omega)), if_neg (nI_ge hm (by omega)), chk_t (inb_nI hm (by omega)), cl_nI (by omega), nar8, sv_col (by decide), h2, nI_1]
theorem pull_C {kb N F L o0 : Nat} {V : HV} (hN : (if o0 = 0 then 64 else 500) = N) (h500 : N ≤ 500) (hF : F < N) (hL : L + 1 ≤ N) (h1 : V 501 o0 0 = nI F) (h2 : V 502 o0 0 = nI (L + 1)) : f_X6_pull kb o0 V = some ((V 2000 o0 F) &&& 255, sv (sv V 501 o0 0 (nI ((F + 1) % N))) 502 o0 0 (nI L)) := by
  unfold f_X6_pull
  simp only [lt_def]
  rw [hN, ofNat_nI, h1, h2, if_neg (nI_nle (by omega) (by omega)), if_neg (nI_pos (by omega)), if_pos ((nI_ltI (by omega) (by omega)).mpr hF), chk_t (inb_nI hF (by omega)), cl_nI (by omega), nI_1, at_C hN (by omega) h500, sv_col (by decide), h2, nI_pred]
/-! input -/
theorem b255 {n : Nat} (h : n < 256) : (nI n).toInt8.toInt32 &&& 255 = nI n := sc_k8 n h
theorem mod_ne {F k L N : Nat} (hk : k < L) (hL : L < N) : ¬ (F + k) % N = (F + L) % N := by
  intro h
  have h1 : (F + L) % N = ((F + k) % N + (L - k)) % N := by rw [Nat.mod_add_mod]; congr 1; omega
  rw [← h] at h1
  have h2 : (F + k) % N < N := Nat.mod_lt _ (by omega)
  generalize (F + k) % N = q at h1 h2
  by_cases h3 : q + (L - k) < N
  · rw [Nat.mod_eq_of_lt h3] at h1; omega
  · rw [Nat.mod_eq_sub_mod (by omega), Nat.mod_eq_of_lt (by omega)] at h1; omega
theorem in_all {kb : Nat} {V W : HV} (hs : Rs V W) (h : Ri V W) (x : Int32) : ∃ r V' W', f_X11_input kb 0 x V = some (r, V') ∧ f_X12_input 0 x W = some (r, W') ∧ Ri V' W' ∧ agr [2000, 502] V V' ∧ agr [8300, 1064] W W' := by
  have same : ∃ r V' W', some (false, V) = some (r, V') ∧ some (false, W) = some (r, W') ∧ Ri V' W' ∧ agr [2000, 502] V V' ∧ agr [8300, 1064] W W' := ⟨false, V, W, rfl, rfl, h, (agr_rfl V).sub (by decide), (agr_rfl W).sub (by decide)⟩
  obtain ⟨-, -, s3, -⟩ := hs
  obtain ⟨⟨L, F, a1, a2, a3, a4, a5, a6⟩, hb⟩ := id h
  unfold f_X11_input f_X12_input
  simp only [lt_def]
  rw [s3]
  by_cases h0 : x < 0
  · simp only [if_pos h0]; exact same
  · simp only [if_neg h0]
    by_cases h1 : 255 < x
    · simp only [if_pos h1]; exact same
    · simp only [if_neg h1]
      obtain ⟨n, hn, rfl⟩ := nI_of h0
      have hn255 : n ≤ 255 := Nat.not_lt.mp fun q => h1 (nI_lt (a := 255) q (by omega))
      rw [a3, a4]
      by_cases hf : L = 64
      · subst hf
        rw [if_pos (show nI 64 = (64 : Int32) from rfl), if_neg (show ¬ nI 64 < (64 : Int32) by decide)]
        by_cases hbt : i2b (W 1017 0 0) = true
        · rw [if_pos hbt]; exact same
        · rw [if_neg hbt]; exact same
      · rw [if_neg (show ¬ nI L = (64 : Int32) from fun q => hf (nI_inj (b := 64) (by omega) (by decide) q)), if_pos (show nI L < (64 : Int32) from nI_lt (b := 64) (by omega) (by decide))]
        by_cases hbt : i2b (W 1017 0 0) = true
        · rw [if_pos hbt, if_pos hbt, push_C (N := 64) rfl (by decide) a2 (by omega) a5 a3, bnd_some, chk_t (inb_nI (by omega) (by decide)), cl_nI (by omega), sv_col (by decide), a4, nI_1]
          refine ⟨true, _, _, rfl, rfl, ⟨⟨L + 1, F, by omega, a2, by simp [sv], by simp [sv], by simp [sv, a5], fun k hk => ?_⟩, ?_⟩, ((agr_sv _ _ _ _ _).app (agr_sv _ _ _ _ _)).sub (by decide), ((agr_sv _ _ _ _ _).app (agr_sv _ _ _ _ _)).sub (by decide)⟩
          · by_cases hkL : k = L
            · subst hkL
              simp [sv]
              exact b255 (by omega)
            · have hne := mod_ne (F := F) (k := k) (L := L) (N := 64) (by omega) (by omega)
              simp [sv, hkL, hne]
              exact a6 k (by omega)
          · obtain ⟨L2, F2, G2, b1, b2, b3, b4, b5, b6, b7, b8⟩ := hb
            refine ⟨L2, F2, G2, b1, b2, b3, by simp [sv, b4], by simp [sv, b5], by simp [sv, b6], by simp [sv, b7], fun k hk => ?_⟩
            simp [sv]
            exact b8 k hk
        · rw [if_neg hbt, if_neg hbt]; exact same
/-! fetch -/
theorem shl64 (x : Int64) : ∀ s, s < 64 → (x <<< ((nI s).toInt64 &&& 63)).toBitVec = x.toBitVec <<< s := by
  intro s hs
  have h1 : ∀ s, s < 64 → (((nI s).toInt64 &&& 63).toBitVec.smod 64).toNat = s := by decide +kernel
  rw [Int64.toBitVec_shiftLeft, BitVec.shiftLeft_eq', h1 s hs]
theorem or64 (x y : Int64) : (x ||| y).toBitVec = x.toBitVec ||| y.toBitVec := Int64.toBitVec_or x y
/-- what comes of i bytes b 0, b 1 .. behind n -/
def fM (b : Nat → Int64) (n : Int64) : Nat → Int64
  | 0 => n
  | i + 1 => (fM b n i <<< ((nI 8).toInt64 &&& 63)) ||| b i
def fC (b : Nat → Int64) (n : Int64) : Nat → Int64
  | 0 => n <<< ((nI 56).toInt64 &&& 63)
  | i + 1 => fC b n i ||| (b i <<< ((nI (48 - 8 * i)).toInt64 &&& 63))
def fS (v : Int64) : Nat → Int64
  | 0 => v
  | i + 1 => fS v i <<< ((nI 8).toInt64 &&& 63)
theorem fC_fM (b : Nat → Int64) (n : Int64) : ∀ i, i ≤ 7 → (fC b n i).toBitVec = (fM b n i).toBitVec <<< (56 - 8 * i)
  | 0, _ => shl64 n 56 (by decide)
  | i + 1, h => by
    have ih := fC_fM b n i (by omega)
    rw [fC, fM, or64, or64, ih, shl64 _ _ (by omega), shl64 _ _ (by decide), BitVec.shiftLeft_or_distrib, ← BitVec.shiftLeft_add, show 8 + (56 - 8 * (i + 1)) = 56 - 8 * i by omega, show 56 - 8 * (i + 1) = 48 - 8 * i by omega]
theorem fS_b (v : Int64) : ∀ i, i ≤ 7 → (fS v i).toBitVec = v.toBitVec <<< (8 * i)
  | 0, _ => by simp [fS]
  | i + 1, h => by
    rw [fS, shl64 _ _ (by decide), fS_b v i (by omega), ← BitVec.shiftLeft_add, show 8 * i + 8 = 8 * (i + 1) by omega]
theorem f_same (b : Nat → Int64) (n : Int64) {i : Nat} (h : i ≤ 7) : fC b n i = fS (fM b n i) (7 - i) := by
  apply Int64.toBitVec_inj.mp
  rw [fC_fM b n i h, fS_b _ _ (by omega), show 56 - 8 * i = 8 * (7 - i) by omega]
def rg (V : HV) (F L : Nat) : HV := sv (sv V 501 1 0 (nI F)) 502 1 0 (nI L)
theorem rg_rg (V : HV) (F L F' L' : Nat) : sv (sv (rg V F L) 501 1 0 (nI F')) 502 1 0 (nI L') = rg V F' L' := by
  funext a b c
  simp only [rg, sv]
  by_cases h1 : a = 502 ∧ b = 1 ∧ c = 0
  · simp [h1]
  · by_cases h2 : a = 501 ∧ b = 1 ∧ c = 0
    · simp [h2]
    · simp [h1, h2]
theorem fetch_C {kb F L n : Nat} {V : HV} {k3 : Int64 → HV → Option (Int64 × HV)} (hF : F < 500) (hn : n ≤ 7) (hnL : n ≤ L) (hL : L ≤ 500) (x : Int64) : ∀ (r i f : Nat), i + r = n → r < f → f_X11_fetch_L25 kb (nI n) k3 f (fC (fun j => ((V 2000 1 ((F + j) % 500)) &&& 255).toInt64) x i) (nI i) (rg V ((F + i) % 500) (L - i)) = k3 (fC (fun j => ((V 2000 1 ((F + j) % 500)) &&& 255).toInt64) x n) (rg V ((F + n) % 500) (L - n))
  | 0, i, f + 1, hi, _ => by
    have e : i = n := by omega
    subst e
    rw [f_X11_fetch_L25, if_pos (nI_le (Nat.le_refl _) (by omega))]
  | r + 1, i, f + 1, hi, hf => by
    rw [f_X11_fetch_L25, if_neg (nI_ge (by omega) (by omega)), pull_C (N := 500) (F := (F + i) % 500) (L := L - (i + 1)) rfl (by decide) (Nat.mod_lt _ (by decide)) (by omega) (by simp [rg, sv]) (by simp [rg, sv]; congr 1; omega), bnd_some, lt_def, lt_def, rg_rg, nI_1, show ((F + i) % 500 + 1) % 500 = (F + (i + 1)) % 500 by omega]
    have e : (rg V ((F + i) % 500) (L - i)) 2000 1 ((F + i) % 500) = V 2000 1 ((F + i) % 500) := by simp [rg, sv]
    rw [e]
    have e2 : (48 : Int32) - 8 * nI i = nI (48 - 8 * i) := by
      rw [show (8 : Int32) = nI 8 from rfl, pk_mul, show (48 : Int32) = nI 48 from rfl, pk_sub (by omega)]
    rw [e2]
    exact fetch_C hF hn hnL hL x r (i + 1) f (by omega) (by omega)
theorem fS_sw (v : Int64) : ∀ r, fS v (r + 1) = fS (v <<< ((nI 8).toInt64 &&& 63)) r
  | 0 => rfl
  | r + 1 => by rw [fS, fS_sw v r]; rfl
theorem fetch_M2 {n : Nat} {W : HV} {k4 : Int64 → Option (Int64 × HV)} (hn : n ≤ 7) : ∀ (r i f : Nat) (v : Int64), i + r = 7 → n ≤ i → r < f → f_X12_fetch_L25 0 W (nI n) k4 f v (nI i) = k4 (fS v r)
  | 0, i, f + 1, v, hi, _, _ => by
    have e : i = 7 := by omega
    subst e
    rw [f_X12_fetch_L25, if_pos (by decide)]
    rfl
  | r + 1, i, f + 1, v, hi, hni, hf => by
    rw [f_X12_fetch_L25, if_neg (show ¬ (7 : Int32) ≤ nI i from nI_ge (b := 7) (by omega) (by decide))]
    simp only [lt_def, jn_def]
    rw [if_pos (nI_le hni (by omega)), nI_1, fetch_M2 hn r (i + 1) f _ (by omega) (by omega) (by omega)]
    congr 1
    exact (fS_sw v r).symm
theorem rem500 {a : Nat} (h : a < 2147483648) : nI a - nI a / 500 * 500 = nI (a % 500) := pk_rem (d := 500) h (by decide) (by decide)
theorem fetch_M1 {n G : Nat} {W : HV} {k4 : Int64 → Option (Int64 × HV)} (hn : n ≤ 7) (hG : G < 500) (hg : W 1066 0 0 = nI G) (x : Int64) : ∀ (r i f : Nat), i + r = n → 8 ≤ f + i → f_X12_fetch_L25 0 W (nI n) k4 f (fM (fun j => (W 8500 0 ((G + j) % 500)).toInt64) x i) (nI i) = k4 (fS (fM (fun j => (W 8500 0 ((G + j) % 500)).toInt64) x n) (7 - n))
  | 0, i, f, hi, hf => by
    have e : i = n := by omega
    subst e
    exact fetch_M2 hn (7 - i) i f _ (by omega) (Nat.le_refl _) (by omega)
  | r + 1, i, f, hi, hf => by
    obtain ⟨f, rfl⟩ : ∃ g, f = g + 1 := ⟨f - 1, by omega⟩
    rw [f_X12_fetch_L25, if_neg (show ¬ (7 : Int32) ≤ nI i from nI_ge (b := 7) (by omega) (by decide))]
    simp only [lt_def, jn_def]
    rw [if_neg (nI_ge (by omega) (by omega)), hg, nI_add, rem500 (by omega), chk_t (inb_nI (Nat.mod_lt _ (by decide)) (by decide)), cl_nI (by omega), nI_1]
    exact fetch_M1 hn hG hg x r (i + 1) f (by omega) (by omega)
theorem tA {kb : Nat} {V : HV} : f_X11_fetch kb 0 V = f_X11_fetch_L25 kb (f_J9_min_7cf53 7 (V 502 1 0)) (fun v5 V6 => some (v5, V6)) FU ((f_J9_min_7cf53 7 (V 502 1 0)).toInt64 <<< (Int32.toInt64 (56 : Int32) &&& 63)) 0 V := by
  unfold f_X11_fetch
  rw [lt_def, lt_def, jn_def]
theorem tB {V : HV} : f_X12_fetch 0 V = f_X12_fetch_L25 0 V (if 7 ≤ (V 1067 0 0) then (7) else ((V 1067 0 0)) : Int32) (fun v6 =>
  some (v6, (sv (sv V 1066 0 0 (((V 1066 0 0) + (if 7 ≤ (V 1067 0 0) then (7) else ((V 1067 0 0)) : Int32)) - ((V 1066 0 0) + (if 7 ≤ (V 1067 0 0) then (7) else ((V 1067 0 0)) : Int32)) / 500 * 500)) 1067 0 0 ((sv V 1066 0 0 (((V 1066 0 0) + (if 7 ≤ (V 1067 0 0) then (7) else ((V 1067 0 0)) : Int32)) - ((V 1066 0 0) + (if 7 ≤ (V 1067 0 0) then (7) else ((V 1067 0 0)) : Int32)) / 500 * 500)) 1067 0 0 - (if 7 ≤ (V 1067 0 0) then (7) else ((V 1067 0 0)) : Int32))))) FU ((if 7 ≤ (V 1067 0 0) then (7) else ((V 1067 0 0)) : Int32).toInt64) 0 := by
  unfold f_X12_fetch
  rw [lt_def, lt_def, jn_def]
  simp only [lt_def]
theorem fM_congr {b c : Nat → Int64} {x : Int64} : ∀ n, (∀ i, i < n → b i = c i) → fM b x n = fM c x n
  | 0, _ => rfl
  | n + 1, h => by rw [fM, fM, fM_congr n (fun i hi => h i (by omega)), h n (by omega)]
theorem fetch_all {kb : Nat} {V W : HV} (h : Ri V W) : ∃ r V' W', f_X11_fetch kb 0 V = some (r, V') ∧ f_X12_fetch 0 W = some (r, W') ∧ Ri V' W' ∧ agr [501, 502] V V' ∧ agr [1066, 1067] W W' := by
  obtain ⟨ha, L, F, G, b1, b2, b3, b4, b5, b6, b7, b8⟩ := id h
  obtain ⟨n, hn7, hnL, hmin, hminM⟩ : ∃ n, n ≤ 7 ∧ n ≤ L ∧ f_J9_min_7cf53 7 (nI L) = nI n ∧ (if (7 : Int32) ≤ nI L then (7 : Int32) else nI L) = nI n := by
    by_cases h7 : 7 ≤ L
    · refine ⟨7, by omega, h7, ?_, ?_⟩
      · unfold f_J9_min_7cf53
        rw [lt_def, if_neg (show ¬ nI L < (7 : Int32) from nI_nlt (b := 7) h7 (by omega))]
        rfl
      · rw [if_pos (show (7 : Int32) ≤ nI L from nI_le (a := 7) h7 (by omega))]
        rfl
    · refine ⟨L, by omega, by omega, ?_, ?_⟩
      · unfold f_J9_min_7cf53
        rw [lt_def, if_pos (show nI L < (7 : Int32) from nI_lt (b := 7) (by omega) (by decide))]
      · rw [if_neg (show ¬ (7 : Int32) ≤ nI L from nI_ge (b := 7) (by omega) (by decide))]
  rw [tA, tB]
  rw [b4, b5, hmin, hminM]
  have hfu : n < FU ∧ 8 ≤ FU := ⟨FU_gt (by omega), Nat.le_of_lt (FU_gt (by omega))⟩
  generalize FU = fu at hfu ⊢
  have e0 : rg V ((F + 0) % 500) (L - 0) = V := by
    funext a b c
    simp only [rg, sv]
    by_cases h1 : a = 502 ∧ b = 1 ∧ c = 0
    · simp [h1, b4]
    · by_cases h2 : a = 501 ∧ b = 1 ∧ c = 0
      · simp [h2, b6, Nat.mod_eq_of_lt b2]
      · simp [h1, h2]
  have hc := fetch_C (kb := kb) (V := V) (k3 := fun v5 V6 => some (v5, V6)) b2 hn7 hnL b1 (nI n).toInt64 n 0 fu (by omega) hfu.1
  rw [e0] at hc
  have hm := fetch_M1 (W := W) (k4 := fun v6 => some (v6, sv (sv W 1066 0 0 (((W 1066 0 0) + nI n) - ((W 1066 0 0) + nI n) / 500 * 500)) 1067 0 0 ((sv W 1066 0 0 (((W 1066 0 0) + nI n) - ((W 1066 0 0) + nI n) / 500 * 500)) 1067 0 0 - nI n))) hn7 b3 b7 (nI n).toInt64 n 0 fu (by omega) (by omega)
  have z0 : (nI 0 : Int32) = 0 := rfl
  have z1 : ∀ b, fC b (nI n).toInt64 0 = (nI n).toInt64 <<< (Int32.toInt64 56 &&& 63) := fun _ => rfl
  have z2 : ∀ b, fM b (nI n).toInt64 0 = (nI n).toInt64 := fun _ => rfl
  rw [z0, z1] at hc
  rw [z0, z2] at hm
  have hb := fM_congr (b := fun j => (W 8500 0 ((G + j) % 500)).toInt64) (c := fun j => ((V 2000 1 ((F + j) % 500)) &&& 255).toInt64) (x := (nI n).toInt64) n (fun i hi => congrArg Int32.toInt64 (b8 i (by omega)).symm)
  rw [hb, ← f_same _ _ hn7] at hm
  refine ⟨_, _, sv (sv W 1066 0 0 (((W 1066 0 0) + nI n) - ((W 1066 0 0) + nI n) / 500 * 500)) 1067 0 0 ((sv W 1066 0 0 (((W 1066 0 0) + nI n) - ((W 1066 0 0) + nI n) / 500 * 500)) 1067 0 0 - nI n), hc, ?_, ?_, ?_, ?_⟩
  · exact hm
  · refine ⟨?_, L - n, (F + n) % 500, (G + n) % 500, by omega, Nat.mod_lt _ (by decide), Nat.mod_lt _ (by decide), by simp [rg, sv], ?_, by simp [rg, sv], ?_, fun k hk => ?_⟩
    · obtain ⟨L1, F1, a1, a2, a3, a4, a5, a6⟩ := ha
      refine ⟨L1, F1, a1, a2, by simp [rg, sv, a3], by simp [sv, a4], by simp [rg, sv, a5], fun k hk => ?_⟩
      simp [rg, sv]
      exact a6 k hk
    · simp [sv, b5]
      exact pk_sub hnL
    · rw [sv_col (by decide), sv_at, b7, nI_add, rem500 (by omega)]
    · have h1 := b8 (n + k) (by omega)
      rw [show (F + (n + k)) % 500 = ((F + n) % 500 + k) % 500 by omega, show (G + (n + k)) % 500 = ((G + n) % 500 + k) % 500 by omega] at h1
      simp only [Nat.mod_add_mod] at h1
      simp [rg, sv]
      exact h1
  · exact ((agr_sv _ _ _ _ _).app (agr_sv _ _ _ _ _)).sub (by decide)
  · exact ((agr_sv _ _ _ _ _).app (agr_sv _ _ _ _ _)).sub (by decide)
