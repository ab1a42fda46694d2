/-! what a boot fixes -/
def xN (Y : HV) (c j : Nat) : Nat := (Y c 0 j).toNatClampNeg
def gN (Y : HV) (c j : Nat) : Nat := (Y c 0 j).toNatClampNeg / 16
def isG (Y : HV) (c j : Nat) : Prop := Y c 0 j = nI (16 * gN Y c j)
def lyc : List Nat := [1000, 1018, 1019, 1054, 4000, 4100, 4200, 4300, 4400, 4500, 4600, 5100, 5500, 5600, 5700]
def LY (Y W : HV) : Prop := ∀ c, c ∈ lyc → ∀ o j, W c o j = Y c o j
def hp (Y : HV) : Nat := gN Y 1054 0
def Lay (kb : Nat) (Y : HV) : Prop := 1 ≤ kb ∧ kb ≤ 32 ∧ Y 1000 0 0 = nI (1024 * kb) ∧ Y 1019 0 0 = nI (nth Y) ∧ nth Y ≤ 6 ∧ Y 1018 0 0 = nI (ncp Y) ∧ ncp Y ≤ 8 ∧ isG Y 1054 0 ∧ hp Y < 64 * kb ∧
  (∀ c, c < ncp Y → isG Y 4000 c ∧ isG Y 4200 c ∧ isG Y 4300 c ∧ gN Y 4000 c ≤ gN Y 4200 c ∧ gN Y 4200 c ≤ gN Y 4300 c ∧ gN Y 4300 c ≤ hp Y) ∧
  (∀ t, t < nth Y → isG Y 5600 t ∧ isG Y 5700 t ∧ gN Y 5600 t ≤ gN Y 5700 t ∧ gN Y 5700 t ≤ hp Y ∧ Y 5100 0 t = nI (xN Y 5100 t) ∧ xN Y 5100 t ≤ 16)
/-! the heap's objects: first granule, granules, use (1 object, 2 held, 3 swept) -/
abbrev Ob := Nat × Nat × Nat
def srt (hi : Nat) : Nat → List Ob → Prop
  | lo, [] => lo ≤ hi
  | lo, o :: l => lo ≤ o.1 ∧ 0 < o.2.1 ∧ (o.2.2 = 1 ∨ o.2.2 = 2 ∨ o.2.2 = 3) ∧ srt hi (o.1 + o.2.1) l
/-- what stands at a granule: an object's granules and its use, at its first one -/
def lk : List Ob → Nat → Nat × Nat
  | [], _ => (0, 0)
  | o :: l, g => if g = o.1 then o.2 else lk l g
def rvk (l : List Ob) (g : Nat) : Bool := l.any fun o => decide (o.2.2 ≠ 1 ∧ o.1 ≤ g ∧ g < o.1 + o.2.1)
def cnt : List Ob → Nat
  | [] => 0
  | o :: l => (if o.2.2 = 1 then 1 else 0) + cnt l
def gvn : List Ob → Nat
  | [] => 0
  | o :: l => (if o.2.2 = 1 then o.2.1 else 0) + gvn l
def hld : List Ob → Nat
  | [] => 0
  | o :: l => (if o.2.2 = 1 then 0 else o.2.1) + hld l
def HpC (kb : Nat) (h : Nat) (l : List Ob) (V : HV) : Prop := V 302 0 0 = nI h ∧ (∀ g, g < 64 * kb → V 2500 0 g = nI (lk l g).1 ∧ V 2600 0 g = nI (lk l g).2) ∧ V 303 0 0 = nI (cnt l) ∧ V 304 0 0 = nI (gvn l) ∧ V 305 0 0 = nI (hld l)
def HpM (l : List Ob) (W : HV) : Prop := W 1055 0 0 = nI l.length ∧ ∀ k o, l[k]? = some o → W 7600 0 k = nI (16 * o.1) ∧ W 7700 0 k = nI (16 * o.2.1) ∧ i2b (W 7800 0 k) = decide (o.2.2 ≠ 1) ∧ i2b (W 7900 0 k) = decide (o.2.2 = 3)
def HpS (kb : Nat) (V W : HV) : Prop := V 307 0 0 = W 1061 0 0 ∧ V 306 0 0 = W 1062 0 0 ∧ i2b (V 308 0 0) = i2b (W 1060 0 0) ∧ (W 1061 0 0 = -1 ∨ ∃ s, s < 16 * kb ∧ W 1061 0 0 = nI (4 * s))
def Hp (kb : Nat) (Y : HV) (l : List Ob) (V W : HV) : Prop := srt (64 * kb) (hp Y) l ∧ HpC kb (hp Y) l V ∧ HpM l W ∧ HpS kb V W ∧ ∀ g, g < 64 * kb → i2b (W 2300 0 g) = rvk l g
/-! good capabilities -/
def sub (p m : Int32) : Prop := p &&& (m ^^^ (-1)) = 0
def rgn (Y : HV) (l : List Ob) (b t : Nat) (p : Int32) : Prop :=
  (268435456 ≤ b ∧ t ≤ 268435472 ∧ sub p 67) ∨ (8 ≤ b ∧ t ≤ 264 ∧ sub p 96) ∨
  (∃ c, c < ncp Y ∧ 16 * gN Y 4000 c ≤ b ∧ t ≤ 16 * gN Y 4200 c ∧ sub p 77) ∨ (∃ c, c < ncp Y ∧ 16 * gN Y 4200 c ≤ b ∧ t ≤ 16 * gN Y 4300 c ∧ sub p 91) ∨
  (∃ s, s < nth Y ∧ 16 * gN Y 5600 s ≤ b ∧ t ≤ 16 * gN Y 5700 s ∧ sub p 155) ∨ (∃ o, o ∈ l ∧ 16 * o.1 ≤ b ∧ t ≤ 16 * (o.1 + o.2.1) ∧ sub p 91)
def gd (Y : HV) (l : List Ob) (c : Cp) : Prop := c.2.2.2.1 &&& 255 = c.2.2.2.1 ∧ c.2.2.2.2.1 &&& 255 = c.2.2.2.2.1 ∧ (c.2.2.2.2.2 = true →
  (c.2.2.2.2.1 = 4 → ∃ k e, k < ncp Y ∧ e < xN Y 4400 k ∧ c.1 = nI (16 * k + e)) ∧
  (uN c.2.1 < uN c.2.2.1 → rgn Y l (uN c.2.1) (uN c.2.2.1) c.2.2.2.1))
/-- the objects that aren't freed; those that aren't swept -/
def lv (l : List Ob) : List Ob := l.filter fun o => decide (o.2.2 = 1)
def sw (l : List Ob) : List Ob := l.filter fun o => decide (o.2.2 ≠ 3)
/-- its object is freed -/
def gone (kb : Nat) (l : List Ob) (c : Cp) : Prop := c.2.2.2.1 &&& 32 = 0 ∧ uN c.2.1 < 1024 * kb ∧ rvk l (uN c.2.1 / 16) = true
def CpsF (x : Nat) (Y : HV) (l : List Ob) (ok : Nat → Prop) (f g : Nat → Cp) : Prop := ∀ i, i < 582 → (ok i → i ≠ x → f i = g i) ∧ gd Y l (g i) ∧ (¬ ok i → (g i).2.2.2.2.2 = false) ∧ (i < 102 → i % 17 = 0 → g i = nm 0)
def Cps (x : Nat) (Y : HV) (l : List Ob) (V W : HV) : Prop := CpsF x Y l (okc W) (cC V) (cM W)
def mw (M : Nat → Int32) (a : Nat) : Int32 := ldv M a 4 0
def mC (M : Nat → Int32) (g : Nat → Int32) (q : Nat) : Cp := (mw M (16 * q), mw M (16 * q + 4), mw M (16 * q + 8), mw M (16 * q + 12) &&& 255, (mw M (16 * q + 12) >>> ((8 : Int32) &&& 31)) &&& 255, i2b (g q))
def Mgd (kb : Nat) (Y : HV) (l : List Ob) (W : HV) : Prop := ∀ q, q < 64 * kb → gd Y l (mC (W 2100 0) (W 2200 0) q)
/-! frames, threads -/
def Frm (Y : HV) (V W : HV) : Prop := ∀ t f, t < nth Y → f < xN W 5000 t → V 206 (16 * t + f) 0 = W 6400 0 (16 * t + f) ∧ i2b (V 205 (16 * t + f) 0) = i2b (W 6500 0 (16 * t + f)) ∧ W 2600 0 (102 + 80 * t + 5 * f + 1) = W 6600 0 (16 * t + f) ∧
  ∃ q e, W 2400 0 (102 + 80 * t + 5 * f + 1) = nI (16 * q) ∧ W 6600 0 (16 * t + f) = nI (16 * e) ∧ gN Y 5600 t ≤ q ∧ q ≤ e ∧ e ≤ gN Y 5700 t
def Thr (Y : HV) (W : HV) : Prop := ∀ t, t < nth Y → W 5000 0 t = nI (xN W 5000 t) ∧ xN W 5000 t ≤ xN Y 5100 t ∧ isG W 5800 t ∧ gN Y 5600 t ≤ gN W 5800 t ∧ gN W 5800 t ≤ gN Y 5700 t ∧ ((W 4700 0 t = 0 ∨ W 4700 0 t = 3) → W 4800 0 t = -1) ∧ (W 4700 0 t = 1 → ¬ W 6300 0 t = 0 → W 4800 0 t = -1) ∧ ((W 4700 0 t = 2 ∨ (W 4700 0 t = 1 ∧ W 6300 0 t = 0)) → ¬ W 4800 0 t = -1)
def ST (x kb : Nat) (Y : HV) (l : List Ob) (V W : HV) : Prop := Lay kb Y ∧ LY Y W ∧ Rs V W ∧ Rl V W ∧ Rc V W ∧ Rm kb V W ∧ Ri V W ∧ In kb W ∧ Hp kb Y l V W ∧ Cps x Y l V W ∧ Mgd kb Y l W ∧ Frm Y V W ∧ Thr Y W ∧ Rt V W
/-- time, and the order of threads -/
def Tm (T Tw : Nat) (V W : HV) : Prop := W 1047 0 0 = nI T ∧ (∀ t, t < nth W → V 718 t 0 ≤ nI T ∧ W 5900 0 t ≤ nI T) ∧
  (W 1048 0 0 = -1 ∨ ∃ c, c < nth W ∧ (W 1048 0 0 = nI c ∧ W 1080 0 0 = nI c) ∧ ∀ o, o < nth W → o ≠ c → V 718 o 0 < V 718 c 0 ∧ W 5900 0 o < W 5900 0 c) ∧
  (∀ t, t < nth W → W 4700 0 t = 2 → V 714 t 0 ≤ nI Tw ∧ W 6200 0 t < W 1053 0 0) ∧ ∃ o, o ≤ Tw ∧ W 1053 0 0 = nI o
/-- thread t's registers hold nothing of a freed object -/
def Jr (Y : HV) (l : List Ob) (W : HV) (t : Nat) : Prop := ∀ k, k < 17 → gd Y (lv l) (cM W (17 * t + k))
/-- swept memory holds nothing of a swept object -/
def Jm (Y : HV) (l : List Ob) (W : HV) : Prop := ∀ s, W 1061 0 0 = nI s → s < 2147483648 → ∀ q, q < s → gd Y (sw l) (mC (W 2100 0) (W 2200 0) q)
def RR (cn kb : Nat) (V W : HV) : Prop := ∃ Y l T, T ≤ 5000 * cn ∧ ST 1000 kb Y l V W ∧ Tm T T V W ∧ (∀ t, W 1048 0 0 = nI t → t < 6 → Jr Y l W t) ∧ Jm Y l W
/-! what stays -/
theorem LY_fr {ds : List Nat} {Y W W' : HV} (hW : agr ds W W') (h2 : ∀ c ∈ lyc, c ∉ ds) (h : LY Y W) : LY Y W' := fun c hc o j => (hW c o j (h2 c hc)).trans (h c hc o j)
theorem xN_fr {ds : List Nat} {W W' : HV} {c j : Nat} (hW : agr ds W W') (h2 : c ∉ ds) : xN W' c j = xN W c j := by unfold xN; rw [hW c 0 j h2]
theorem gN_fr {ds : List Nat} {W W' : HV} {c j : Nat} (hW : agr ds W W') (h2 : c ∉ ds) : gN W' c j = gN W c j := by unfold gN; rw [hW c 0 j h2]
theorem Hp_fr {kb : Nat} {Y : HV} {l : List Ob} {cs ds : List Nat} {V V' W W' : HV} (hV : agr cs V V') (hW : agr ds W W') (h1 : ∀ c ∈ [302, 303, 304, 305, 306, 307, 308, 2500, 2600], c ∉ cs) (h2 : ∀ c ∈ [1055, 1060, 1061, 1062, 2300, 7600, 7700, 7800, 7900], c ∉ ds) (h : Hp kb Y l V W) : Hp kb Y l V' W' := by
  obtain ⟨a1, ⟨b1, b2, b3, b4, b5⟩, ⟨c1, c2⟩, d, e⟩ := h
  refine ⟨a1, ⟨?_, fun g hg => ?_, ?_, ?_, ?_⟩, ⟨?_, fun k o hk => ?_⟩, ?_, fun g hg => ?_⟩
  · rw [hV 302 0 0 (h1 _ (by decide))]; exact b1
  · rw [hV 2500 0 g (h1 _ (by decide)), hV 2600 0 g (h1 _ (by decide))]; exact b2 g hg
  · rw [hV 303 0 0 (h1 _ (by decide))]; exact b3
  · rw [hV 304 0 0 (h1 _ (by decide))]; exact b4
  · rw [hV 305 0 0 (h1 _ (by decide))]; exact b5
  · rw [hW 1055 0 0 (h2 _ (by decide))]; exact c1
  · rw [hW 7600 0 k (h2 _ (by decide)), hW 7700 0 k (h2 _ (by decide)), hW 7800 0 k (h2 _ (by decide)), hW 7900 0 k (h2 _ (by decide))]; exact c2 k o hk
  · unfold HpS
    rw [hV 307 0 0 (h1 _ (by decide)), hV 306 0 0 (h1 _ (by decide)), hV 308 0 0 (h1 _ (by decide)), hW 1060 0 0 (h2 _ (by decide)), hW 1061 0 0 (h2 _ (by decide)), hW 1062 0 0 (h2 _ (by decide))]; exact d
  · rw [hW 2300 0 g (h2 _ (by decide))]; exact e g hg
theorem okc_fr {ds : List Nat} {W W' : HV} (hW : agr ds W W') (h2 : ∀ c ∈ [1019, 5000], c ∉ ds) : okc W' = okc W := by
  funext i
  unfold okc
  rw [nth_fr hW (h2 _ (by decide)), hW 5000 0 _ (h2 _ (by decide))]
theorem cC_fr {cs : List Nat} {V V' : HV} (hV : agr cs V V') (h1 : ∀ c ∈ [0, 1, 2, 3, 4, 5], c ∉ cs) : cC V' = cC V := by
  funext i
  unfold cC
  rw [hV 0 i 0 (h1 _ (by decide)), hV 1 i 0 (h1 _ (by decide)), hV 2 i 0 (h1 _ (by decide)), hV 3 i 0 (h1 _ (by decide)), hV 4 i 0 (h1 _ (by decide)), hV 5 i 0 (h1 _ (by decide))]
theorem cM_fr {ds : List Nat} {W W' : HV} (hW : agr ds W W') (h2 : ∀ c ∈ [2400, 2500, 2600, 2700, 2800, 2900], c ∉ ds) : cM W' = cM W := by
  funext i
  unfold cM
  rw [hW 2400 0 i (h2 _ (by decide)), hW 2500 0 i (h2 _ (by decide)), hW 2600 0 i (h2 _ (by decide)), hW 2700 0 i (h2 _ (by decide)), hW 2800 0 i (h2 _ (by decide)), hW 2900 0 i (h2 _ (by decide))]
theorem Cps_fr {x : Nat} {Y : HV} {l : List Ob} {cs ds : List Nat} {V V' W W' : HV} (hV : agr cs V V') (hW : agr ds W W') (h1 : ∀ c ∈ [0, 1, 2, 3, 4, 5], c ∉ cs) (h2 : ∀ c ∈ [1019, 2400, 2500, 2600, 2700, 2800, 2900, 5000], c ∉ ds) (h : Cps x Y l V W) : Cps x Y l V' W' := by
  unfold Cps
  rw [okc_fr hW (fun c hc => h2 c (by revert c; decide)), cC_fr hV h1, cM_fr hW (fun c hc => h2 c (by revert c; decide))]
  exact h
theorem row_fr {ds : List Nat} {W W' : HV} {c : Nat} (hW : agr ds W W') (h : c ∉ ds) : W' c 0 = W c 0 := funext fun j => hW c 0 j h
theorem Mgd_fr {kb : Nat} {Y : HV} {l : List Ob} {ds : List Nat} {W W' : HV} (hW : agr ds W W') (h2 : ∀ c ∈ [2100, 2200], c ∉ ds) (h : Mgd kb Y l W) : Mgd kb Y l W' := by
  unfold Mgd
  rw [row_fr hW (h2 2100 (by decide)), row_fr hW (h2 2200 (by decide))]
  exact h
theorem Frm_fr {Y : HV} {cs ds : List Nat} {V V' W W' : HV} (hV : agr cs V V') (hW : agr ds W W') (h1 : ∀ c ∈ [205, 206], c ∉ cs) (h2 : ∀ c ∈ [2400, 2600, 5000, 6400, 6500, 6600], c ∉ ds) (h : Frm Y V W) : Frm Y V' W' := by
  intro t f ht hf
  rw [xN_fr hW (h2 _ (by decide))] at hf
  rw [hV 205 _ 0 (h1 _ (by decide)), hV 206 _ 0 (h1 _ (by decide)), hW 2400 0 _ (h2 _ (by decide)), hW 2600 0 _ (h2 _ (by decide)), hW 6400 0 _ (h2 _ (by decide)), hW 6500 0 _ (h2 _ (by decide)), hW 6600 0 _ (h2 _ (by decide))]
  exact h t f ht hf
theorem Thr_fr {Y : HV} {ds : List Nat} {W W' : HV} (hW : agr ds W W') (h2 : ∀ c ∈ [4700, 4800, 5000, 5800, 6300], c ∉ ds) (h : Thr Y W) : Thr Y W' := by
  intro t ht
  unfold isG
  rw [xN_fr hW (h2 5000 (by decide)), gN_fr hW (h2 5800 (by decide)), hW 5000 0 _ (h2 _ (by decide)), hW 5800 0 _ (h2 _ (by decide)), hW 4700 0 _ (h2 _ (by decide)), hW 4800 0 _ (h2 _ (by decide)), hW 6300 0 _ (h2 _ (by decide))]
  exact h t ht
theorem Jr_fr {t : Nat} {Y : HV} {l : List Ob} {ds : List Nat} {W W' : HV} (hW : agr ds W W') (h2 : ∀ c ∈ [2400, 2500, 2600, 2700, 2800, 2900], c ∉ ds) (h : Jr Y l W t) : Jr Y l W' t := by
  unfold Jr
  rw [cM_fr hW h2]
  exact h
theorem Jm_fr {Y : HV} {l : List Ob} {ds : List Nat} {W W' : HV} (hW : agr ds W W') (h2 : ∀ c ∈ [1061, 2100, 2200], c ∉ ds) (h : Jm Y l W) : Jm Y l W' := by
  unfold Jm
  rw [row_fr hW (h2 2100 (by decide)), row_fr hW (h2 2200 (by decide)), hW 1061 0 0 (h2 _ (by decide))]
  exact h
