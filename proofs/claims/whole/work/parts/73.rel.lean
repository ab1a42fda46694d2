/-! the relation between the class's columns (V) and the reference's (W), and the reference's invariants -/
def nth (W : HV) : Nat := (W 1019 0 0).toNatClampNeg
def ncp (W : HV) : Nat := (W 1018 0 0).toNatClampNeg
/-- numbers of the whole machine -/
def Rs (V W : HV) : Prop := V 807 0 0 = W 1018 0 0 ∧ V 808 0 0 = W 1019 0 0 ∧ i2b (V 809 0 0) = i2b (W 1017 0 0) ∧ V 810 0 0 = W 1047 0 0 ∧ V 811 0 0 = W 1048 0 0 ∧ V 813 0 0 = W 1049 0 0 ∧ V 814 0 0 = W 1050 0 0 ∧ V 815 0 0 = W 1051 0 0 ∧ V 816 0 0 = W 1052 0 0
/-- the tape -/
def Rl (V W : HV) : Prop := V 405 0 0 = W 1016 0 0 ∧ ∃ L : Nat, L ≤ 5000 ∧ V 401 0 0 = nI L ∧ W 1011 0 0 = nI L ∧ ∀ j, j < L → V 3100 0 j = W 3000 0 j
/-- a thread -/
def Rt1 (V W : HV) (t : Nat) : Prop :=
  V 704 t 0 = W 5000 0 t ∧ V 705 t 0 = W 5100 0 t ∧ V 706 t 0 = W 5500 0 t ∧ V 707 t 0 = W 5600 0 t ∧ V 708 t 0 = W 5800 0 t ∧ V 709 t 0 = W 4900 0 t ∧ i2b (V 710 t 0) = i2b (W 5200 0 t) ∧ V 712 t 0 = W 4800 0 t ∧ V 716 t 0 = W 5300 0 t ∧ V 717 t 0 = W 5400 0 t ∧
  ((V 711 t 0 = 4 ∧ W 4700 0 t = 1 ∧ ∃ z : Nat, 0 < z ∧ z ≤ 2048 ∧ W 6300 0 t = nI (16 * z) ∧ V 715 t 0 = nI z) ∨ (V 711 t 0 = W 4700 0 t ∧ W 6300 0 t = 0 ∧ (W 4700 0 t = 0 ∨ W 4700 0 t = 1 ∨ W 4700 0 t = 2 ∨ W 4700 0 t = 3))) ∧
  (W 4700 0 t = 2 → V 713 t 0 = W 6100 0 t)
def Rt (V W : HV) : Prop := (∀ t, t < 6 → V 700 t 0 = nI t) ∧ (∀ t, t < nth W → Rt1 V W t) ∧
  (∀ t u, t < nth W → u < nth W → (V 718 t 0 < V 718 u 0 ↔ W 5900 0 t < W 5900 0 u)) ∧
  (∀ t u, t < nth W → u < nth W → W 4700 0 t = 2 → W 4700 0 u = 2 → (V 714 t 0 < V 714 u 0 ↔ W 6200 0 t < W 6200 0 u)) ∧
  (∀ c, c < nth W → W 1048 0 0 = nI c → V 812 0 0 = W 6000 0 c)
/-- the compartments -/
def Rc (V W : HV) : Prop := ∀ c, c < ncp W → V 108 c 0 = W 4000 0 c ∧ V 109 c 0 = W 4100 0 c ∧ V 110 c 0 = W 4200 0 c ∧ V 111 c 0 = W 4300 0 c ∧ V 104 c 0 = W 4400 0 c ∧ ∃ x : Nat, x ≤ 8 ∧ W 4400 0 c = nI x ∧ ∀ j, j < x → V 2700 c j = W 4500 0 (8 * c + j) ∧ V 2800 c j = W 4600 0 (8 * c + j)
/-- memory and its granules' marks -/
def Rm (kb : Nat) (V W : HV) : Prop := (∀ a, a < 1024 * kb → V 2300 0 a = W 2100 0 a) ∧ ∀ g, g < 64 * kb → V 2400 0 g = b2i (i2b (W 2200 0 g)) + (if i2b (W 2300 0 g) = true then 2 else 0)
/-- which capabilities are in use: registers of threads, and frames that are kept -/
def okc (W : HV) (i : Nat) : Prop := (i < 102 ∧ i / 17 < nth W) ∨ (102 ≤ i ∧ i < 582 ∧ (i - 102) / 80 < nth W ∧ (i - 102) % 80 / 5 < (W 5000 0 ((i - 102) / 80)).toNatClampNeg)
def Rk1 (V W : HV) (i : Nat) : Prop := V 0 i 0 = W 2400 0 i ∧ V 1 i 0 = W 2500 0 i ∧ V 2 i 0 = W 2600 0 i ∧ V 3 i 0 = W 2700 0 i ∧ V 4 i 0 = W 2800 0 i ∧ i2b (V 5 i 0) = i2b (W 2900 0 i)
def Rk (V W : HV) : Prop := ∀ i, okc W i → Rk1 V W i
/-- input and output -/
def Ri (V W : HV) : Prop := (∃ L F : Nat, L ≤ 64 ∧ F < 64 ∧ V 502 0 0 = nI L ∧ W 1064 0 0 = nI L ∧ V 501 0 0 = nI F ∧ ∀ k, k < L → (V 2000 0 ((F + k) % 64)) &&& 255 = W 8300 0 k) ∧
  ∃ L F G : Nat, L ≤ 500 ∧ F < 500 ∧ G < 500 ∧ V 502 1 0 = nI L ∧ W 1067 0 0 = nI L ∧ V 501 1 0 = nI F ∧ W 1066 0 0 = nI G ∧ ∀ k, k < L → (V 2000 1 ((F + k) % 500)) &&& 255 = W 8500 0 ((G + k) % 500)
/-- the reference's own numbers -/
def In (kb : Nat) (W : HV) : Prop := 1 ≤ kb ∧ kb ≤ 32 ∧ W 1000 0 0 = nI (1024 * kb) ∧ W 1019 0 0 = nI (nth W) ∧ nth W ≤ 6 ∧ W 1018 0 0 = nI (ncp W) ∧ ncp W ≤ 8 ∧ (i2b (W 1017 0 0) = false → nth W = 0 ∧ ncp W = 0)
