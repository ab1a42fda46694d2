noncomputable section
def f_X0_set (kb : Nat) (o0 : Nat) (x1 : Int32) (x2 : Int32) (x3 : Int32) (x4 : Int32) (x5 : Int32) (x6 : Bool) (V : HV) : HV :=
  lt (sv V 0 o0 0 x1) fun V1 =>
  lt (sv V1 1 o0 0 x2) fun V2 =>
  lt (sv V2 2 o0 0 x3) fun V3 =>
  lt (sv V3 3 o0 0 x4) fun V4 =>
  lt (sv V4 4 o0 0 x5) fun V5 =>
  lt (sv V5 5 o0 0 (b2i x6)) fun V6 =>
  V6
def f_X0_copy (kb : Nat) (o0 : Nat) (o1 : Nat) (V : HV) : HV :=
  lt (f_X0_set kb o0 (V 0 o1 0) (V 1 o1 0) (V 2 o1 0) (V 3 o1 0) (V 4 o1 0) (i2b (V 5 o1 0)) V) fun V1 =>
  V1
def f_X0_number (kb : Nat) (o0 : Nat) (x1 : Int32) (V : HV) : HV :=
  lt (f_X0_set kb o0 x1 0 0 0 0 false V) fun V1 =>
  V1
def f_X0_clear (kb : Nat) (o0 : Nat) (V : HV) : HV :=
  lt (f_X0_set kb o0 0 0 0 0 0 false V) fun V1 =>
  V1
def f_X0_has (kb : Nat) (o0 : Nat) (x1 : Int32) (V : HV) : Bool :=
  lt (if ((V 3 o0 0) &&& x1) = x1 then (true) else (false) : Bool) fun v1 =>
  v1
def f_X0_isPlainWith (kb : Nat) (o0 : Nat) (x1 : Int32) (V : HV) : Bool :=
  lt (if (i2b (V 5 o0 0)) = true then (if (V 4 o0 0) = 0 then (if ((V 3 o0 0) &&& x1) = x1 then (true) else (false)) else (false)) else (false) : Bool) fun v1 =>
  v1
def f_X0_holds (kb : Nat) (o0 : Nat) (x1 : Int32) (x2 : Int32) (V : HV) : Bool :=
  lt (x1.toInt64 &&& (4294967295 : Int64)) fun v1 =>
  lt (if (lg_cmp v1 (((V 1 o0 0).toInt64) &&& (4294967295 : Int64))) < 0 then (false) else (if 0 < (lg_cmp (v1 + x2.toInt64) (((V 2 o0 0).toInt64) &&& (4294967295 : Int64))) then (false) else (true)) : Bool) fun v2 =>
  v2
def f_X0_faultFor (kb : Nat) (o0 : Nat) (x1 : Int32) (x2 : Int32) (x3 : Int32) (V : HV) : Int32 :=
  if (i2b (V 5 o0 0)) = true then (if (V 4 o0 0) = 0 then (lt (f_X0_has kb o0 x1 V) fun v3 =>
  if v3 = true then (lt (f_X0_holds kb o0 x2 x3 V) fun v5 =>
  if v5 = true then (lt (if (x2 &&& (x3 - 1)) = 0 then (0) else (5) : Int32) fun v7 =>
  v7) else (4)) else (3)) else (2)) else (1)
def f_X0_moveTo (kb : Nat) (o0 : Nat) (x1 : Int32) (V : HV) : HV :=
  lt (sv V 0 o0 0 x1) fun V1 =>
  lt (if (V1 4 o0 0) = 0 then (true) else (false) : Bool) fun v2 =>
  lt (sv V1 5 o0 0 (b2i ((i2b (V1 5 o0 0)) && v2))) fun V4 =>
  V4
def f_X11_unsigned (x0 : Int32) : Int64 :=
  (x0.toInt64 &&& (4294967295 : Int64))
def f_X0_narrow (kb : Nat) (o0 : Nat) (x1 : Int64) (V : HV) : HV :=
  lt (f_X11_unsigned (V 0 o0 0)) fun v1 =>
  lt (v1 + x1) fun v2 =>
  lt (if (V 4 o0 0) = 0 then (if (lg_cmp v1 (f_X11_unsigned (V 1 o0 0))) < 0 then (false) else (if 0 < (lg_cmp v2 (f_X11_unsigned (V 2 o0 0))) then (false) else (true))) else (false) : Bool) fun v3 =>
  lt (sv V 5 o0 0 (b2i ((i2b (V 5 o0 0)) && v3))) fun V5 =>
  lt (sv V5 1 o0 0 (V5 0 o0 0)) fun V6 =>
  lt (sv V6 2 o0 0 v2.toInt32) fun V7 =>
  V7
def f_X0_limit (kb : Nat) (o0 : Nat) (x1 : Int32) (V : HV) : HV :=
  lt (sv V 3 o0 0 ((V 3 o0 0) &&& x1)) fun V1 =>
  lt (if (V1 4 o0 0) = 0 then (true) else (false) : Bool) fun v2 =>
  lt (sv V1 5 o0 0 (b2i ((i2b (V1 5 o0 0)) && v2))) fun V4 =>
  V4
def f_X0_canSeal (kb : Nat) (o0 : Nat) (V : HV) : Bool :=
  lt (f_X0_isPlainWith kb o0 32 V) fun v1 =>
  lt (if v1 = true then (if (f_X0_holds kb o0 (V 0 o0 0) 1 V) = true then (if (V 0 o0 0) < 8 then (false) else (if 255 < (V 0 o0 0) then (false) else (true))) else (false)) else (false) : Bool) fun v2 =>
  v2
def f_X0_seal (kb : Nat) (o0 : Nat) (o1 : Nat) (V : HV) : HV :=
  jn (lt (sv V 5 o0 0 (b2i false)) fun V3 =>
  V3) fun k1 =>
  if (i2b (V 5 o0 0)) = true then (if (V 4 o0 0) = 0 then (lt (f_X0_canSeal kb o1 V) fun v6 =>
  if v6 = true then (lt (sv V 4 o0 0 (V 0 o1 0)) fun V8 =>
  V8) else (k1)) else (k1)) else (k1)
def f_X0_unseal (kb : Nat) (o0 : Nat) (o1 : Nat) (V : HV) : HV :=
  jn (lt (sv V 5 o0 0 (b2i false)) fun V3 =>
  V3) fun k1 =>
  if (i2b (V 5 o0 0)) = true then (if (V 4 o0 0) = (V 0 o1 0) then (lt (f_X0_canSeal kb o1 V) fun v6 =>
  if v6 = true then (lt (sv V 4 o0 0 0) fun V8 =>
  lt (f_X0_has kb o1 64 V8) fun v9 =>
  if v9 = true then (V8) else (lt (sv V8 3 o0 0 ((V8 3 o0 0) &&& (-65))) fun V11 =>
  V11)) else (k1)) else (k1)) else (k1)
def f_X0_becomeEntry (kb : Nat) (o0 : Nat) (x1 : Int32) (V : HV) : HV :=
  lt (f_X0_isPlainWith kb o0 4 V) fun v1 =>
  if v1 = true then (lt (sv V 4 o0 0 x1) fun V4 =>
  V4) else (lt (sv V 5 o0 0 (b2i false)) fun V3 =>
  V3)
def f_X0_isWithin (kb : Nat) (o0 : Nat) (o1 : Nat) (V : HV) : Bool :=
  lt (f_X11_unsigned (V 1 o0 0)) fun v1 =>
  lt (f_X11_unsigned (V 1 o1 0)) fun v2 =>
  lt (if (lg_cmp v1 v2) < 0 then (false) else (if 0 < (lg_cmp (f_X11_unsigned (V 2 o0 0)) (f_X11_unsigned (V 2 o1 0))) then (false) else (if (f_X0_has kb o1 (V 3 o0 0) V) = true then (if (b2i (i2b (V 5 o0 0))) = (b2i (i2b (V 5 o1 0))) then (true) else (false)) else (false))) : Bool) fun v3 =>
  v3
def f_X0_isLike (kb : Nat) (o0 : Nat) (o1 : Nat) (V : HV) : Bool :=
  lt (if (V 0 o0 0) = (V 0 o1 0) then (if (V 1 o0 0) = (V 1 o1 0) then (if (V 2 o0 0) = (V 2 o1 0) then (if (V 3 o0 0) = (V 3 o1 0) then (if (V 4 o0 0) = (V 4 o1 0) then (if (b2i (i2b (V 5 o0 0))) = (b2i (i2b (V 5 o1 0))) then (true) else (false)) else (false)) else (false)) else (false)) else (false)) else (false) : Bool) fun v1 =>
  v1
def f_X0_part (kb : Nat) (o0 : Nat) (x1 : Int32) (V : HV) : Int64 :=
  if x1 = 0 then (lt (f_X11_unsigned (V 0 o0 0)) fun v2 =>
  v2) else
  if x1 = 1 then (lt (f_X11_unsigned (V 1 o0 0)) fun v4 =>
  v4) else
  if x1 = 2 then (lt (f_X11_unsigned (V 2 o0 0)) fun v6 =>
  v6) else
  if x1 = 3 then (((V 3 o0 0).toInt64)) else
  if x1 = 4 then (((V 4 o0 0).toInt64)) else
  if x1 = 5 then (lt (if (i2b (V 5 o0 0)) = true then ((1 : Int64)) else ((0 : Int64)) : Int64) fun v10 =>
  v10) else
  ((-1) : Int64)
def f_X1_arrange (kb : Nat) (o0 : Nat) (x1 : Int32) (V : HV) : Int32 × HV :=
  lt (sv V 108 o0 0 x1) fun V1 =>
  lt (sv V1 109 o0 0 (x1 + ((((((V1 102 o0 0) * 4) + 16) - 1) / 16) * 16))) fun V2 =>
  lt (sv V2 110 o0 0 ((V2 109 o0 0) + ((V2 105 o0 0) * 16))) fun V3 =>
  lt (sv V3 111 o0 0 ((V3 110 o0 0) + ((V3 103 o0 0) * 16))) fun V4 =>
  ((V4 111 o0 0), V4)
def f_X1_hasExport (kb : Nat) (o0 : Nat) (x1 : Int32) (V : HV) : Bool :=
  lt (if x1 < 0 then (false) else (if (V 104 o0 0) ≤ x1 then (false) else (if 8 ≤ x1 then (false) else (true))) : Bool) fun v1 =>
  v1
def f_X1_codeTo (kb : Nat) (o0 : Nat) (o1 : Nat) (x2 : Int32) (V : HV) : Option (HV) :=
  lt (f_X1_hasExport kb o0 x2 V) fun v1 =>
  jn (fun v2 =>
  lt (f_X0_set kb o1 ((V 108 o0 0) + (v2 * 4)) (V 108 o0 0) (V 110 o0 0) 77 0 true V) fun V5 =>
  some V5) fun k3 =>
  if v1 = true then (chk (inb x2 8) <|
  k3 (V 2700 o0 (x2).toNatClampNeg)) else (k3 0)
def f_X1_globalsTo (kb : Nat) (o0 : Nat) (o1 : Nat) (x2 : Int32) (V : HV) : HV :=
  lt (f_X0_set kb o1 (V 110 o0 0) (V 110 o0 0) (V 111 o0 0) x2 0 true V) fun V1 =>
  V1
def f_X1_interruptsAt (kb : Nat) (o0 : Nat) (x1 : Int32) (x2 : Bool) (V : HV) : Option (Bool) :=
  lt (f_X1_hasExport kb o0 x1 V) fun v1 =>
  jn (fun v2 =>
  lt (if v2 = 1 then (x2) else (if v2 = 3 then (true) else (false)) : Bool) fun v5 =>
  some v5) fun k3 =>
  if v1 = true then (chk (inb x1 8) <|
  k3 (V 2800 o0 (x1).toNatClampNeg)) else (k3 1)
def f_X1_part (kb : Nat) (o0 : Nat) (x1 : Int32) (V : HV) : Int32 :=
  if x1 = 0 then ((V 108 o0 0)) else
  if x1 = 1 then ((V 109 o0 0)) else
  if x1 = 2 then ((V 110 o0 0)) else
  if x1 = 3 then ((V 111 o0 0)) else
  (-1)
def f_X2_f (x0 : Int32) : Int32 :=
  ((((x0).toUInt32 >>> (Int32.toUInt32 (12 : Int32) &&& Int32.toUInt32 31)).toInt32) &&& 7)
def f_X2_g (x0 : Int32) : Int32 :=
  (((x0).toUInt32 >>> (Int32.toUInt32 (25 : Int32) &&& Int32.toUInt32 31)).toInt32)
def f_X2_dField (x0 : Int32) : Int32 :=
  ((((x0).toUInt32 >>> (Int32.toUInt32 (7 : Int32) &&& Int32.toUInt32 31)).toInt32) &&& 31)
def f_X2_aField (x0 : Int32) : Int32 :=
  ((((x0).toUInt32 >>> (Int32.toUInt32 (15 : Int32) &&& Int32.toUInt32 31)).toInt32) &&& 31)
def f_X2_bField (x0 : Int32) : Int32 :=
  ((((x0).toUInt32 >>> (Int32.toUInt32 (20 : Int32) &&& Int32.toUInt32 31)).toInt32) &&& 31)
def f_X2_immediate (x0 : Int32) : Int32 :=
  (x0 >>> ((20 : Int32) &&& 31))
def f_X2_storeOffset (x0 : Int32) : Int32 :=
  lt (f_X2_dField x0) fun v1 =>
  (((x0 >>> ((25 : Int32) &&& 31)) <<< ((5 : Int32) &&& 31)) ||| v1)
def f_X2_branchOffset (x0 : Int32) : Int32 :=
  (((((x0 >>> ((31 : Int32) &&& 31)) <<< ((12 : Int32) &&& 31)) ||| (((((x0).toUInt32 >>> (Int32.toUInt32 (7 : Int32) &&& Int32.toUInt32 31)).toInt32) &&& 1) <<< ((11 : Int32) &&& 31))) ||| (((((x0).toUInt32 >>> (Int32.toUInt32 (25 : Int32) &&& Int32.toUInt32 31)).toInt32) &&& 63) <<< ((5 : Int32) &&& 31))) ||| (((((x0).toUInt32 >>> (Int32.toUInt32 (8 : Int32) &&& Int32.toUInt32 31)).toInt32) &&& 15) <<< ((1 : Int32) &&& 31)))
def f_X2_jumpOffset (x0 : Int32) : Int32 :=
  (((((x0 >>> ((31 : Int32) &&& 31)) <<< ((20 : Int32) &&& 31)) ||| (((((x0).toUInt32 >>> (Int32.toUInt32 (12 : Int32) &&& Int32.toUInt32 31)).toInt32) &&& 255) <<< ((12 : Int32) &&& 31))) ||| (((((x0).toUInt32 >>> (Int32.toUInt32 (20 : Int32) &&& Int32.toUInt32 31)).toInt32) &&& 1) <<< ((11 : Int32) &&& 31))) ||| (((((x0).toUInt32 >>> (Int32.toUInt32 (21 : Int32) &&& Int32.toUInt32 31)).toInt32) &&& 1023) <<< ((1 : Int32) &&& 31)))
def f_X10_taskAt (kb : Nat) (o0 : Nat) (x1 : Int32) (V : HV) : Option (Option Nat) :=
  if x1 < 0 then (some none) else (if (V 808 o0 0) ≤ x1 then (some none) else (if 6 ≤ x1 then (some none) else (chk (inb x1 6) <|
  some (some ((x1).toNatClampNeg)))))
def f_X8_has (kb : Nat) (o0 : Nat) (x1 : Int32) (x2 : Int32) (V : HV) : Bool :=
  if x1 < 0 then (false) else (if ((Int32.ofNat (1024 * kb)) - x2) < x1 then (false) else (true))
def f_X8_load_L16 (x1 : Int32) (kb : Nat) (V : HV) (k4 : Int32 → Option (Int32)) : Nat → Int32 → Int32 → Option (Int32)
  | 0, _, _ => none
  | n9 + 1, v7, v8 =>
  if v8 < 0 then (k4 v7) else (chk (inb (x1 + v8) (1024 * kb)) <|
  lt ((v7 <<< ((8 : Int32) &&& 31)) ||| ((V 2300 0 (x1 + v8).toNatClampNeg) &&& 255)) fun v13 =>
  lt (v8 + (-1)) fun v14 =>
  f_X8_load_L16 x1 kb V k4 n9 v13 v14)
def f_X8_load (kb : Nat) (o0 : Nat) (x1 : Int32) (x2 : Int32) (V : HV) : Option (Int32) :=
  lt (f_X8_has kb o0 x1 x2 V) fun v1 =>
  if v1 = true then (lt (x2 - 1) fun v3 =>
  jn (fun v6 =>
  some v6) fun k4 =>
  f_X8_load_L16 x1 kb V k4 FU 0 v3) else (some 0)
def f_X2_isLegalCapability (x0 : Int32) (x1 : Int32) (x2 : Int32) : Bool :=
  if x0 = 0 then (lt (if 16 ≤ x2 then (false) else (if 7 < x1 then (false) else (true)) : Bool) fun v2 =>
  v2) else
  if x0 = 1 then (lt (if 12 < x2 then (false) else (if x1 = 0 then (true) else (false)) : Bool) fun v8 =>
  v8) else
  lt (if 3 < x0 then (false) else (true) : Bool) fun v13 =>
  v13
def f_X2_isLegal (x0 : Int32) : Bool :=
  lt (f_X2_f x0) fun v1 =>
  lt (f_X2_g x0) fun v2 =>
  lt (f_X2_dField x0) fun v3 =>
  lt (if 16 ≤ v3 then (false) else (true) : Bool) fun v4 =>
  lt (f_X2_aField x0) fun v6 =>
  lt (if 16 ≤ v6 then (false) else (true) : Bool) fun v7 =>
  lt (f_X2_bField x0) fun v9 =>
  lt (if 16 ≤ v9 then (false) else (true) : Bool) fun v10 =>
  if (x0 &&& 127) = 3 then (lt (if v4 = true then (if v7 = true then (if 5 < v1 then (false) else (true)) else (false)) else (false) : Bool) fun v13 =>
  v13) else
  if (x0 &&& 127) = 19 then (lt (if v4 = true then (if v7 = true then (if v1 = 1 then (if v2 = 0 then (true) else (if v1 = 5 then (if v2 = 32 then (true) else (false)) else (false))) else (if v1 = 5 then (if v2 = 0 then (true) else (if v1 = 5 then (if v2 = 32 then (true) else (false)) else (false))) else (true))) else (false)) else (false) : Bool) fun v20 =>
  v20) else
  if (x0 &&& 127) = 23 then (v4) else
  if (x0 &&& 127) = 35 then (lt (if v7 = true then (if v10 = true then (if 3 < v1 then (false) else (true)) else (false)) else (false) : Bool) fun v35 =>
  v35) else
  if (x0 &&& 127) = 51 then (lt (if v4 = true then (if v7 = true then (if v10 = true then (if v2 ≤ 1 then (true) else (if v2 = 32 then (if v1 = 0 then (true) else (if v1 = 5 then (true) else (false))) else (false))) else (false)) else (false)) else (false) : Bool) fun v42 =>
  v42) else
  if (x0 &&& 127) = 55 then (v4) else
  if (x0 &&& 127) = 91 then (lt (if v4 = true then (if v7 = true then (if (f_X2_isLegalCapability v1 v2 (f_X2_bField x0)) = true then (true) else (false)) else (false)) else (false) : Bool) fun v54 =>
  v54) else
  if (x0 &&& 127) = 99 then (lt (if v7 = true then (if v10 = true then (if v1 = 2 then (false) else (if v1 = 3 then (false) else (true))) else (false)) else (false) : Bool) fun v61 =>
  v61) else
  if (x0 &&& 127) = 103 then (lt (if v4 = true then (if v7 = true then (if v1 = 0 then (true) else (false)) else (false)) else (false) : Bool) fun v69 =>
  v69) else
  if (x0 &&& 127) = 111 then (v4) else
  false
def f_X9_reg (o0 : Nat) (x1 : Int32) : Nat :=
  (17 * o0 + (x1 &&& 15).toNatClampNeg)
def f_X2_jumpFault (kb : Nat) (o0 : Nat) (x1 : Int32) (V : HV) : Int32 :=
  if (i2b (V 5 o0 0)) = true then (if (V 4 o0 0) = 0 then (lt (f_X0_has kb o0 4 V) fun v8 =>
  lt (if v8 = true then (0) else (3) : Int32) fun v9 =>
  v9) else (lt (if x1 = 0 then (if 6 < (V 4 o0 0) then (2) else (0)) else (2) : Int32) fun v3 =>
  v3)) else (1)
def f_X2_link (kb : Nat) (o0 : Nat) (o1 : Nat) (V : HV) : HV :=
  lt (f_X0_copy kb o1 (17 * o0 + 16) V) fun V1 =>
  lt (sv V1 0 o1 0 ((V1 0 o1 0) + 4)) fun V2 =>
  lt (if (i2b (V2 710 o0 0)) = true then (3) else (2) : Int32) fun v3 =>
  lt (sv V2 4 o1 0 v3) fun V5 =>
  V5
def f_X9_stackIsAsGiven (kb : Nat) (o0 : Nat) (V : HV) : Bool :=
  lt (f_X0_isPlainWith kb (f_X9_reg o0 2) 2 V) fun v1 =>
  lt (if v1 = true then (if (V 1 (f_X9_reg o0 2) 0) = (V 707 o0 0) then (if (V 2 (f_X9_reg o0 2) 0) = (V 708 o0 0) then (if (f_X0_holds kb (f_X9_reg o0 2) (V 0 (f_X9_reg o0 2) 0) 0 V) = true then (if ((V 0 (f_X9_reg o0 2) 0) - (V 0 (f_X9_reg o0 2) 0) / 16 * 16) = 0 then (true) else (false)) else (false)) else (false)) else (false)) else (false) : Bool) fun v2 =>
  v2
def f_X10_compartmentAt (kb : Nat) (o0 : Nat) (x1 : Int32) (V : HV) : Option (Option Nat) :=
  if x1 < 0 then (some none) else (if (V 807 o0 0) ≤ x1 then (some none) else (if 8 ≤ x1 then (some none) else (chk (inb x1 8) <|
  some (some ((x1).toNatClampNeg)))))
def f_X9_hasFrameLeft (kb : Nat) (o0 : Nat) (V : HV) : Bool :=
  lt (if (V 704 o0 0) < 0 then (false) else (if (V 705 o0 0) ≤ (V 704 o0 0) then (false) else (if 16 ≤ (V 704 o0 0) then (false) else (true))) : Bool) fun v1 =>
  v1
def f_X9_keepFrame (kb : Nat) (o0 : Nat) (V : HV) : Option (HV) :=
  lt (f_X9_hasFrameLeft kb o0 V) fun v1 =>
  if v1 = true then (chk (inb (V 704 o0 0) 16) <|
  lt (f_X0_copy kb (102 + 5 * (16 * o0 + (V 704 o0 0).toNatClampNeg)) (17 * o0 + 16) V) fun V4 =>
  lt (f_X0_copy kb (103 + 5 * (16 * o0 + (V 704 o0 0).toNatClampNeg)) (f_X9_reg o0 2) V4) fun V5 =>
  lt (f_X0_copy kb (104 + 5 * (16 * o0 + (V 704 o0 0).toNatClampNeg)) (f_X9_reg o0 3) V5) fun V6 =>
  lt (f_X0_copy kb (105 + 5 * (16 * o0 + (V 704 o0 0).toNatClampNeg)) (f_X9_reg o0 8) V6) fun V7 =>
  lt (f_X0_copy kb (106 + 5 * (16 * o0 + (V 704 o0 0).toNatClampNeg)) (f_X9_reg o0 9) V7) fun V8 =>
  lt (sv V8 205 (16 * o0 + (V 704 o0 0).toNatClampNeg) 0 (b2i (i2b (V8 710 o0 0)))) fun V9 =>
  lt (sv V9 206 (16 * o0 + (V 704 o0 0).toNatClampNeg) 0 (V9 709 o0 0)) fun V10 =>
  lt (sv V10 704 o0 0 ((V10 704 o0 0) + 1)) fun V11 =>
  some V11) else (some V)
def f_X8_erase_L43 (x2 : Int32) (kb : Nat) (k8 : HV → Option (HV)) : Nat → Int32 → HV → Option (HV)
  | 0, _, _ => none
  | n13 + 1, v11, V12 =>
  if (x2 / 16) ≤ v11 then (k8 V12) else (if (Int32.ofNat (64 * kb)) ≤ v11 then (k8 V12) else (chk (inb v11 (64 * kb)) <|
  chk (inb v11 (64 * kb)) <|
  lt (sv V12 2400 0 (v11).toNatClampNeg (((((V12 2400 0 (v11).toNatClampNeg) &&& (-2)).toInt8.toInt32)).toInt8.toInt32)) fun V19 =>
  lt (v11 + 1) fun v20 =>
  f_X8_erase_L43 x2 kb k8 n13 v20 V19))
def f_X8_erase_L20 (x2 : Int32) (kb : Nat) (k4 : HV → Option (HV)) : Nat → Int32 → HV → Option (HV)
  | 0, _, _ => none
  | n23 + 1, v21, V22 =>
  if x2 ≤ v21 then (k4 V22) else (chk (inb v21 (1024 * kb)) <|
  lt (sv V22 2300 0 (v21).toNatClampNeg (((0 : Int32)).toInt8.toInt32)) fun V27 =>
  lt (v21 + 1) fun v28 =>
  f_X8_erase_L20 x2 kb k4 n23 v28 V27)
def f_X8_erase (kb : Nat) (o0 : Nat) (x1 : Int32) (x2 : Int32) (V : HV) : Option (HV) :=
  if x1 < 0 then (some V) else (if x2 < x1 then (some V) else (if (Int32.ofNat (1024 * kb)) < x2 then (some V) else (jn (fun V6 =>
  lt (x1 / 16) fun v7 =>
  jn (fun V10 =>
  some V10) fun k8 =>
  f_X8_erase_L43 x2 kb k8 FU v7 V6) fun k4 =>
  f_X8_erase_L20 x2 kb k4 FU x1 V)))
def f_X9_forget_L2 (o0 : Nat) (x2 : Int32) (kb : Nat) (k1 : HV → Option (HV)) : Nat → Int32 → HV → Option (HV)
  | 0, _, _ => none
  | n6 + 1, v4, V5 =>
  if x2 < v4 then (k1 V5) else (lt (f_X0_clear kb (f_X9_reg o0 v4) V5) fun V9 =>
  lt (v4 + 1) fun v10 =>
  f_X9_forget_L2 o0 x2 kb k1 n6 v10 V9)
def f_X9_forget (kb : Nat) (o0 : Nat) (x1 : Int32) (x2 : Int32) (V : HV) : Option (HV) :=
  jn (fun V3 =>
  some V3) fun k1 =>
  f_X9_forget_L2 o0 x2 kb k1 FU x1 V
def f_X9_enter (kb : Nat) (o0 : Nat) (o1 : Nat) (x2 : Int32) (x3 : Int32) (x4 : Int32) (V : HV) : Option (HV) :=
  bnd (f_X9_forget kb o0 0 9 V) fun p1 =>
  lt (sv p1 709 o0 0 x2) fun V2 =>
  bnd (f_X1_interruptsAt kb o1 x3 (i2b (V2 710 o0 0)) V2) fun p3 =>
  lt (sv V2 710 o0 0 (b2i p3)) fun V4 =>
  bnd (f_X1_codeTo kb o1 (17 * o0 + 16) x3 V4) fun p5 =>
  lt (f_X0_set kb (f_X9_reg o0 1) 0 0 0 0 5 true p5) fun V6 =>
  lt (f_X0_set kb (f_X9_reg o0 2) x4 (V6 707 o0 0) x4 155 0 true V6) fun V7 =>
  lt (f_X1_globalsTo kb o1 (f_X9_reg o0 3) 91 V7) fun V8 =>
  lt (sv V8 708 o0 0 x4) fun V9 =>
  some V9
def f_X2_call (kb : Nat) (o0 : Nat) (o1 : Nat) (x2 : Int32) (V : HV) : Option (Int32 × HV) :=
  lt (f_X9_stackIsAsGiven kb o1 V) fun v1 =>
  if v1 = true then (bnd (f_X10_compartmentAt kb o0 (x2 >>> ((4 : Int32) &&& 31)) V) fun p3 =>
  jn (lt (f_X0_number kb (f_X9_reg o1 10) (-1) V) fun V6 =>
  lt (f_X0_number kb (f_X9_reg o1 11) 8 V6) fun V7 =>
  some (0, V7)) fun k4 =>
  onn p3 (k4) fun a8 =>
  chk (a8 < 8) <|
  lt (f_X9_hasFrameLeft kb o1 V) fun v10 =>
  if v10 = true then (lt (V 0 (f_X9_reg o1 2) 0) fun v12 =>
  lt (sv V 814 o0 0 ((V 814 o0 0) + 1)) fun V13 =>
  bnd (f_X9_keepFrame kb o1 V13) fun p14 =>
  bnd (f_X8_erase kb 0 (p14 707 o1 0) v12 p14) fun p15 =>
  bnd (f_X9_enter kb o1 a8 (x2 >>> ((4 : Int32) &&& 31)) (x2 &&& 15) v12 p15) fun p16 =>
  some (0, p16)) else (k4)) else (some (7, V))
def f_X9_forgetAll_L10 (o0 : Nat) (kb : Nat) (v1 : Int32) (k2 : HV → Option (HV)) : Nat → Int32 → HV → Option (HV)
  | 0, _, _ => none
  | n9 + 1, v7, V8 =>
  if v1 ≤ v7 then (k2 V8) else (chk (inb v7 16) <|
  lt (f_X0_clear kb (17 * o0 + (v7).toNatClampNeg) V8) fun V13 =>
  lt (v7 + 1) fun v14 =>
  f_X9_forgetAll_L10 o0 kb v1 k2 n9 v14 V13)
def f_X9_forgetAll (kb : Nat) (o0 : Nat) (V : HV) : Option (HV) :=
  lt (Int32.ofNat 16) fun v1 =>
  jn (fun V4 =>
  lt (f_X0_clear kb (17 * o0 + 16) V4) fun V5 =>
  lt (sv V5 704 o0 0 0) fun V6 =>
  some V6) fun k2 =>
  f_X9_forgetAll_L10 o0 kb v1 k2 FU 0 V
def f_X9_end (kb : Nat) (o0 : Nat) (V : HV) : Option (HV) :=
  bnd (f_X9_forgetAll kb o0 V) fun p1 =>
  lt (sv p1 711 o0 0 3) fun V2 =>
  some V2
def f_X8_isMarked (kb : Nat) (o0 : Nat) (x1 : Int32) (x2 : Int32) (V : HV) : Option (Bool) :=
  lt (x1 / 16) fun v1 =>
  if x1 < 0 then (some false) else (if (Int32.ofNat (64 * kb)) ≤ v1 then (some false) else (chk (inb v1 (64 * kb)) <|
  if ((V 2400 0 (v1).toNatClampNeg) &&& x2) = 0 then (some false) else (some true)))
def f_X8_filter (kb : Nat) (o0 : Nat) (o1 : Nat) (V : HV) : Option (HV) :=
  if (i2b (V 5 o1 0)) = true then (lt (f_X0_has kb o1 32 V) fun v2 =>
  if v2 = true then (some V) else (bnd (f_X8_isMarked kb o0 (V 1 o1 0) 2 V) fun p4 =>
  if p4 = true then (lt (sv V 5 o1 0 (b2i false)) fun V6 =>
  some V6) else (some V))) else (some V)
def f_X3_filterBy (kb : Nat) (o0 : Nat) (o1 : Nat) (V : HV) : Option (HV) :=
  bnd (f_X8_filter kb o1 (102 + 5 * o0) V) fun p1 =>
  bnd (f_X8_filter kb o1 (103 + 5 * o0) p1) fun p2 =>
  bnd (f_X8_filter kb o1 (104 + 5 * o0) p2) fun p3 =>
  bnd (f_X8_filter kb o1 (105 + 5 * o0) p3) fun p4 =>
  bnd (f_X8_filter kb o1 (106 + 5 * o0) p4) fun p5 =>
  some p5
def f_X9_forgetOthers (kb : Nat) (o0 : Nat) (V : HV) : Option (HV) :=
  bnd (f_X9_forget kb o0 0 1 V) fun p1 =>
  bnd (f_X9_forget kb o0 4 7 p1) fun p2 =>
  bnd (f_X9_forget kb o0 12 15 p2) fun p3 =>
  some p3
def f_X9_giveBack (kb : Nat) (o0 : Nat) (o1 : Nat) (V : HV) : Option (HV) :=
  jn (bnd (f_X9_end kb o0 V) fun p3 =>
  some p3) fun k1 =>
  if (V 704 o0 0) ≤ 0 then (k1) else (if (V 704 o0 0) ≤ 16 then (lt (sv V 704 o0 0 ((V 704 o0 0) - 1)) fun V6 =>
  chk (inb (V6 704 o0 0) 16) <|
  bnd (f_X3_filterBy kb (16 * o0 + (V6 704 o0 0).toNatClampNeg) o1 V6) fun p8 =>
  lt (f_X0_copy kb (17 * o0 + 16) (102 + 5 * (16 * o0 + (V6 704 o0 0).toNatClampNeg)) p8) fun V9 =>
  lt (f_X0_copy kb (f_X9_reg o0 2) (103 + 5 * (16 * o0 + (V6 704 o0 0).toNatClampNeg)) V9) fun V10 =>
  lt (f_X0_copy kb (f_X9_reg o0 3) (104 + 5 * (16 * o0 + (V6 704 o0 0).toNatClampNeg)) V10) fun V11 =>
  lt (f_X0_copy kb (f_X9_reg o0 8) (105 + 5 * (16 * o0 + (V6 704 o0 0).toNatClampNeg)) V11) fun V12 =>
  lt (f_X0_copy kb (f_X9_reg o0 9) (106 + 5 * (16 * o0 + (V6 704 o0 0).toNatClampNeg)) V12) fun V13 =>
  lt (sv V13 710 o0 0 (b2i (i2b (V13 205 (16 * o0 + (V6 704 o0 0).toNatClampNeg) 0)))) fun V14 =>
  lt (sv V14 709 o0 0 (V14 206 (16 * o0 + (V6 704 o0 0).toNatClampNeg) 0)) fun V15 =>
  lt (sv V15 708 o0 0 (V15 2 (103 + 5 * (16 * o0 + (V6 704 o0 0).toNatClampNeg)) 0)) fun V16 =>
  bnd (f_X9_forgetOthers kb o0 V16) fun p17 =>
  bnd (f_X8_erase kb o1 (p17 707 o0 0) (p17 0 (103 + 5 * (16 * o0 + (V6 704 o0 0).toNatClampNeg)) 0) p17) fun p18 =>
  some p18) else (k1))
def f_X4_bytes (kb : Nat) (o0 : Nat) (V : HV) : Int32 :=
  (((Int32.ofNat (64 * kb)) - (V 302 o0 0)) * 16)
def f_X4_room_L7 (x1 : Int32) (kb : Nat) (V : HV) (k2 : Int32 → Option (Int32)) : Nat → Int32 → Int32 → Option (Int32)
  | 0, _, _ => none
  | n7 + 1, v5, v6 =>
  if (Int32.ofNat (64 * kb)) ≤ v6 then (some (-1)) else (chk (inb v6 (64 * kb)) <|
  lt (if (V 2500 0 (v6).toNatClampNeg) ≤ 0 then ((v5 + 1)) else (0) : Int32) fun v11 =>
  if v11 = x1 then (k2 v6) else (chk (inb v6 (64 * kb)) <|
  jn (fun v15 =>
  lt (v6 + v15) fun v18 =>
  f_X4_room_L7 x1 kb V k2 n7 v11 v18) fun k16 =>
  if (V 2500 0 (v6).toNatClampNeg) ≤ 0 then (k16 1) else (chk (inb v6 (64 * kb)) <|
  k16 (V 2500 0 (v6).toNatClampNeg))))
def f_X4_room (kb : Nat) (o0 : Nat) (x1 : Int32) (V : HV) : Option (Int32) :=
  lt (V 302 o0 0) fun v1 =>
  jn (fun v4 =>
  some ((v4 - x1) + 1)) fun k2 =>
  f_X4_room_L7 x1 kb V k2 FU 0 v1
def f_X4_has (kb : Nat) (o0 : Nat) (x1 : Int32) (V : HV) : Bool :=
  if x1 < (V 302 o0 0) then (false) else (if (Int32.ofNat (64 * kb)) ≤ x1 then (false) else (true))
def f_X4_reserve (kb : Nat) (o0 : Nat) (x1 : Int32) (V : HV) : Option (Int32 × HV) :=
  bnd (f_X4_room kb o0 x1 V) fun p1 =>
  lt (f_X4_has kb o0 p1 V) fun v2 =>
  if v2 = true then (chk (inb p1 (64 * kb)) <|
  lt (sv V 2500 0 (p1).toNatClampNeg x1) fun V5 =>
  chk (inb p1 (64 * kb)) <|
  lt (sv V5 2600 0 (p1).toNatClampNeg 1) fun V7 =>
  lt (sv V7 303 o0 0 ((V7 303 o0 0) + 1)) fun V8 =>
  lt (sv V8 304 o0 0 ((V8 304 o0 0) + x1)) fun V9 =>
  some (p1, V9)) else (some (p1, V))
def f_X10_grant (kb : Nat) (o0 : Nat) (x1 : Int32) (o2 : Nat) (V : HV) : Option (Bool × HV) :=
  bnd (f_X4_reserve kb 0 x1 V) fun p1 =>
  lt (p1.1 * 16) fun v2 =>
  if 0 ≤ v2 then (lt (v2 + (x1 * 16)) fun v4 =>
  bnd (f_X8_erase kb 0 v2 v4 p1.2) fun p5 =>
  lt (f_X0_set kb o2 v2 v2 v4 91 0 true p5) fun V6 =>
  some (true, V6)) else (lt (f_X0_clear kb o2 p1.2) fun V7 =>
  some (false, V7))
def f_X7_allocate (kb : Nat) (o0 : Nat) (o1 : Nat) (V : HV) : Option (HV) :=
  lt (f_X11_unsigned (V 0 (f_X9_reg o1 10) 0)) fun v1 =>
  jn (lt (f_X0_clear kb (f_X9_reg o1 10) V) fun V4 =>
  some V4) fun k2 =>
  if (lg_cmp v1 (1 : Int64)) < 0 then (k2) else (lt (f_X4_bytes kb 0 V) fun v6 =>
  if (lg_cmp v1 v6.toInt64) ≤ 0 then (chk (¬ (16 : Int64) = 0) <|
  lt ((((v1 + (16 : Int64)) - (1 : Int64)) / (16 : Int64)).toInt32) fun v9 =>
  bnd (f_X10_grant kb o0 v9 (f_X9_reg o1 10) V) fun p10 =>
  if p10.1 = true then (some p10.2) else (if (p10.2 305 0 0) ≤ 0 then (some p10.2) else (lt (if 0 ≤ (p10.2 307 0 0) then (false) else (true) : Bool) fun v13 =>
  lt (sv p10.2 308 0 0 (b2i ((i2b (p10.2 308 0 0)) || v13))) fun V15 =>
  lt (sv V15 715 o1 0 v9) fun V16 =>
  lt (sv V16 711 o1 0 4) fun V17 =>
  some V17))) else (k2))
def f_X4_isObject (kb : Nat) (o0 : Nat) (x1 : Int32) (x2 : Int32) (V : HV) : Option (Bool) :=
  lt (x1 / 16) fun v1 =>
  if x1 < 0 then (some false) else (if (x1 - x1 / 16 * 16) = 0 then (lt (f_X4_has kb o0 v1 V) fun v4 =>
  if v4 = true then (chk (inb v1 (64 * kb)) <|
  if (V 2600 0 (v1).toNatClampNeg) = 1 then (chk (inb v1 (64 * kb)) <|
  if x2 = (x1 + ((V 2500 0 (v1).toNatClampNeg) * 16)) then (some true) else (some false)) else (some false)) else (some false)) else (some false))
def f_X4_hold (kb : Nat) (o0 : Nat) (x1 : Int32) (V : HV) : Option (HV) :=
  lt (f_X4_has kb o0 x1 V) fun v1 =>
  if v1 = true then (chk (inb x1 (64 * kb)) <|
  lt (sv V 2600 0 (x1).toNatClampNeg 2) fun V4 =>
  lt (sv V4 303 o0 0 ((V4 303 o0 0) - 1)) fun V5 =>
  chk (inb x1 (64 * kb)) <|
  lt (sv V5 304 o0 0 ((V5 304 o0 0) - (V5 2500 0 (x1).toNatClampNeg))) fun V7 =>
  chk (inb x1 (64 * kb)) <|
  lt (sv V7 305 o0 0 ((V7 305 o0 0) + (V7 2500 0 (x1).toNatClampNeg))) fun V9 =>
  some V9) else (some V)
def f_X8_mark (kb : Nat) (o0 : Nat) (x1 : Int32) (x2 : Int32) (x3 : Bool) (V : HV) : Option (HV) :=
  lt (x1 / 16) fun v1 =>
  if x1 < 0 then (some V) else (if (Int32.ofNat (64 * kb)) ≤ v1 then (some V) else (chk (inb v1 (64 * kb)) <|
  lt ((V 2400 0 (v1).toNatClampNeg) &&& (x2 ^^^ (-1))) fun v5 =>
  lt (if x3 = true then ((v5 ||| x2)) else (v5) : Int32) fun v6 =>
  chk (inb v1 (64 * kb)) <|
  lt (sv V 2400 0 (v1).toNatClampNeg ((v6.toInt8.toInt32).toInt8.toInt32)) fun V9 =>
  some V9))
def f_X4_revoke_L3 (o1 : Nat) (x2 : Int32) (x3 : Int32) (x4 : Bool) (kb : Nat) (k1 : HV → Option (HV)) : Nat → Int32 → HV → Option (HV)
  | 0, _, _ => none
  | n6 + 1, v4, V5 =>
  if x3 ≤ v4 then (k1 V5) else (bnd (f_X8_mark kb o1 ((x2 + v4) * 16) 2 x4 V5) fun p9 =>
  lt (v4 + 1) fun v10 =>
  f_X4_revoke_L3 o1 x2 x3 x4 kb k1 n6 v10 p9)
def f_X4_revoke (kb : Nat) (o0 : Nat) (o1 : Nat) (x2 : Int32) (x3 : Int32) (x4 : Bool) (V : HV) : Option (HV) :=
  jn (fun V3 =>
  some V3) fun k1 =>
  f_X4_revoke_L3 o1 x2 x3 x4 kb k1 FU 0 V
def f_X7_release (kb : Nat) (o0 : Nat) (o1 : Nat) (V : HV) : Option (Int32 × HV) :=
  lt (f_X0_isPlainWith kb o1 2 V) fun v1 =>
  if v1 = true then (bnd (f_X4_isObject kb 0 (V 1 o1 0) (V 2 o1 0) V) fun p3 =>
  if p3 = true then (lt ((V 1 o1 0) / 16) fun v5 =>
  bnd (f_X4_hold kb 0 v5 V) fun p6 =>
  bnd (f_X4_revoke kb 0 0 v5 (((p6 2 o1 0) - (p6 1 o1 0)) / 16) true p6) fun p7 =>
  some (0, p7)) else (some ((-1), V))) else (some ((-1), V))
def f_X9_restUntil (kb : Nat) (o0 : Nat) (x1 : Int32) (x2 : Int32) (V : HV) : HV :=
  lt (sv V 711 o0 0 x2) fun V1 =>
  lt (sv V1 712 o0 0 x1) fun V2 =>
  V2
def f_X7_sleep (kb : Nat) (o0 : Nat) (o1 : Nat) (V : HV) : Int32 × HV :=
  lt (V 0 (f_X9_reg o1 10) 0) fun v1 =>
  if v1 < 1 then (((-1), V)) else (if v1 ≤ 10000 then (lt (f_X9_restUntil kb o1 ((V 810 o0 0) + v1) 1 V) fun V4 =>
  (0, V4)) else (((-1), V)))
def f_X7_isWordFor (kb : Nat) (o0 : Nat) (o1 : Nat) (x2 : Int32) (V : HV) : Bool :=
  lt (f_X0_faultFor kb o1 x2 (V 0 o1 0) 4 V) fun v1 =>
  lt (if v1 = 0 then (if (f_X8_has kb 0 (V 0 o1 0) 4 V) = true then (true) else (false)) else (false) : Bool) fun v2 =>
  v2
def f_X7_await (kb : Nat) (o0 : Nat) (o1 : Nat) (V : HV) : Option (Int32 × HV) :=
  lt (V 0 (f_X9_reg o1 12) 0) fun v1 =>
  lt (f_X7_isWordFor kb o0 (f_X9_reg o1 10) 1 V) fun v2 =>
  if v2 = true then (if v1 < 0 then (some ((-1), V)) else (if v1 ≤ 10000 then (bnd (f_X8_load kb 0 (V 0 (f_X9_reg o1 10) 0) 4 V) fun p6 =>
  if p6 = (V 0 (f_X9_reg o1 11) 0) then (lt (sv V 713 o1 0 (V 0 (f_X9_reg o1 10) 0)) fun V8 =>
  lt (sv V8 714 o1 0 (V8 810 o0 0)) fun V9 =>
  lt (f_X9_restUntil kb o1 ((V9 810 o0 0) + v1) 2 V9) fun V10 =>
  some (2, V10)) else (some (1, V))) else (some ((-1), V)))) else (some ((-1), V))
def f_J9_min_f86c9 (x0 : Int64) (x1 : Int64) : Int64 :=
  lt (if 0 < (lg_cmp x0 x1) then (x1) else (x0) : Int64) fun v1 =>
  v1
def f_X9_isWokenBefore (kb : Nat) (o0 : Nat) (o1 : Nat) (V : HV) : Bool :=
  lt (if (V 706 o1 0) < (V 706 o0 0) then (true) else (if (V 706 o0 0) = (V 706 o1 0) then (if (V 714 o1 0) ≤ (V 714 o0 0) then (false) else (true)) else (false)) : Bool) fun v1 =>
  v1
def f_X7_nextToWake_L4 (o0 : Nat) (x1 : Int32) (kb : Nat) (V : HV) (k1 : (Option Nat) → Option (Option Nat)) : Nat → (Option Nat) → Int32 → Option (Option Nat)
  | 0, _, _ => none
  | n6 + 1, r4, v5 =>
  if (V 808 o0 0) ≤ v5 then (k1 r4) else (chk (inb v5 6) <|
  jn (fun r10 =>
  lt (v5 + 1) fun v13 =>
  f_X7_nextToWake_L4 o0 x1 kb V k1 n6 r10 v13) fun k11 =>
  if (V 711 ((v5).toNatClampNeg) 0) = 2 then (if (V 713 ((v5).toNatClampNeg) 0) = x1 then (jn (k11 (some ((v5).toNatClampNeg))) fun k16 =>
  onn r4 (k16) fun a18 =>
  chk (a18 < 6) <|
  lt (f_X9_isWokenBefore kb ((v5).toNatClampNeg) a18 V) fun v20 =>
  if v20 = true then (k16) else (k11 (some a18))) else (k11 r4)) else (k11 r4))
def f_X7_nextToWake (kb : Nat) (o0 : Nat) (x1 : Int32) (V : HV) : Option (Option Nat) :=
  jn (fun r3 =>
  some r3) fun k1 =>
  f_X7_nextToWake_L4 o0 x1 kb V k1 FU none 0
def f_X9_becomeReady (kb : Nat) (o0 : Nat) (V : HV) : HV :=
  lt (sv V 711 o0 0 0) fun V1 =>
  lt (sv V1 712 o0 0 (-1)) fun V2 =>
  V2
def f_X7_wake_L43 (o0 : Nat) (o1 : Nat) (kb : Nat) (v4 : Int64) (k5 : Int32 → HV → Option (Int32 × HV)) : Nat → Int32 → Int32 → HV → Option (Int32 × HV)
  | 0, _, _, _ => none
  | n12 + 1, v9, v10, V11 =>
  if 0 ≤ (lg_cmp v10.toInt64 v4) then (k5 v9 V11) else (bnd (f_X7_nextToWake kb o0 (V11 0 (f_X9_reg o1 10) 0) V11) fun p15 =>
  jn (fun v16 V17 =>
  lt (v10 + 1) fun v20 =>
  f_X7_wake_L43 o0 o1 kb v4 k5 n12 v16 v20 V17) fun k18 =>
  onn p15 (k18 v9 V11) fun a21 =>
  chk (a21 < 6) <|
  lt (f_X9_becomeReady kb a21 V11) fun V23 =>
  lt (f_X0_number kb (f_X9_reg a21 10) 0 V23) fun V24 =>
  lt (v9 + 1) fun v25 =>
  k18 v25 V24)
def f_X7_wake (kb : Nat) (o0 : Nat) (o1 : Nat) (V : HV) : Option (Int32 × HV) :=
  lt (f_X7_isWordFor kb o0 (f_X9_reg o1 10) 2 V) fun v1 =>
  if v1 = true then (lt (f_X11_unsigned (V 0 (f_X9_reg o1 11) 0)) fun v3 =>
  lt (f_J9_min_f86c9 v3 (6 : Int64)) fun v4 =>
  jn (fun v7 V8 =>
  some (v7, V8)) fun k5 =>
  f_X7_wake_L43 o0 o1 kb v4 k5 FU 0 0 V) else (some ((-1), V))
def f_X4_freeBytes (kb : Nat) (o0 : Nat) (V : HV) : Int32 :=
  lt (f_X4_bytes kb o0 V) fun v1 =>
  (v1 - (((V 304 o0 0) + (V 305 o0 0)) * 16))
def f_X9_filterBy_L11 (o0 : Nat) (o1 : Nat) (kb : Nat) (v1 : Int32) (k2 : HV → Option (HV)) : Nat → Int32 → HV → Option (HV)
  | 0, _, _ => none
  | n8 + 1, v6, V7 =>
  if v1 ≤ v6 then (k2 V7) else (chk (inb v6 16) <|
  bnd (f_X8_filter kb o1 (17 * o0 + (v6).toNatClampNeg) V7) fun p12 =>
  lt (v6 + 1) fun v13 =>
  f_X9_filterBy_L11 o0 o1 kb v1 k2 n8 v13 p12)
def f_X9_filterBy (kb : Nat) (o0 : Nat) (o1 : Nat) (V : HV) : Option (HV) :=
  lt (Int32.ofNat 16) fun v1 =>
  jn (fun V4 =>
  bnd (f_X8_filter kb o1 (17 * o0 + 16) V4) fun p5 =>
  some p5) fun k2 =>
  f_X9_filterBy_L11 o0 o1 kb v1 k2 FU 0 V
def f_X7_serve (kb : Nat) (o0 : Nat) (o1 : Nat) (x2 : Int32) (V : HV) : Option (HV) :=
  lt (sv V 815 o0 0 ((V 815 o0 0) + 1)) fun V1 =>
  jn (fun V2 =>
  lt (f_X0_clear kb (f_X9_reg o1 11) V2) fun V5 =>
  bnd (f_X9_forgetOthers kb o1 V5) fun p6 =>
  bnd (f_X9_filterBy kb o1 0 p6) fun p7 =>
  some p7) fun k3 =>
  if x2 = 0 then (bnd (f_X7_allocate kb o0 o1 V1) fun p9 =>
  k3 p9) else
  if x2 = 1 then (bnd (f_X7_release kb o0 (f_X9_reg o1 10) V1) fun p11 =>
  lt (f_X0_number kb (f_X9_reg o1 10) p11.1 p11.2) fun V12 =>
  k3 V12) else
  if x2 = 2 then (lt (sv V1 811 o0 0 (-1)) fun V14 =>
  lt (f_X0_number kb (f_X9_reg o1 10) 0 V14) fun V15 =>
  k3 V15) else
  if x2 = 3 then (lt (f_X7_sleep kb o0 o1 V1) fun p17 =>
  lt (f_X0_number kb (f_X9_reg o1 10) p17.1 p17.2) fun V18 =>
  k3 V18) else
  if x2 = 4 then (bnd (f_X7_await kb o0 o1 V1) fun p20 =>
  lt (f_X0_number kb (f_X9_reg o1 10) p20.1 p20.2) fun V21 =>
  k3 V21) else
  if x2 = 5 then (bnd (f_X7_wake kb o0 o1 V1) fun p23 =>
  lt (f_X0_number kb (f_X9_reg o1 10) p23.1 p23.2) fun V24 =>
  k3 V24) else
  if x2 = 6 then (lt (sv V1 308 0 0 (b2i true)) fun V26 =>
  lt (f_X0_number kb (f_X9_reg o1 10) 0 V26) fun V27 =>
  k3 V27) else
  if x2 = 7 then (lt (f_X0_number kb (f_X9_reg o1 10) (V1 700 o1 0) V1) fun V29 =>
  k3 V29) else
  lt (f_X4_freeBytes kb 0 V1) fun v30 =>
  lt (f_X0_number kb (f_X9_reg o1 10) v30 V1) fun V31 =>
  k3 V31
def f_X2_enter (kb : Nat) (o0 : Nat) (o1 : Nat) (x2 : Int32) (V : HV) : HV :=
  lt (f_X0_copy kb (17 * o0 + 16) o1 V) fun V1 =>
  lt (sv V1 4 (17 * o0 + 16) 0 0) fun V2 =>
  lt (sv V2 0 (17 * o0 + 16) 0 ((V2 0 (17 * o0 + 16) 0) + x2)) fun V3 =>
  if (V3 4 o1 0) = 2 then (lt (sv V3 710 o0 0 (b2i false)) fun V7 =>
  V7) else (if (V3 4 o1 0) = 3 then (lt (sv V3 710 o0 0 (b2i true)) fun V6 =>
  V6) else (V3))
def f_X2_jumpTo (kb : Nat) (o0 : Nat) (o1 : Nat) (x2 : Int32) (V : HV) : Option (Int32 × HV) :=
  lt (f_X2_aField x2) fun v1 =>
  lt (f_X0_copy kb 582 (f_X9_reg o1 v1) V) fun V2 =>
  lt (f_X2_immediate x2) fun v3 =>
  lt (f_X2_jumpFault kb 582 v3 V2) fun v4 =>
  if v4 = 0 then (lt (f_X2_dField x2) fun v6 =>
  lt (f_X2_link kb o1 (f_X9_reg o1 v6) V2) fun V7 =>
  lt (sv V7 0 (17 * o1 + 16) 0 ((V7 0 (17 * o1 + 16) 0) + 4)) fun V8 =>
  if (V8 4 582 0) = 4 then (bnd (f_X2_call kb o0 o1 (V8 0 582 0) V8) fun p10 =>
  some (p10.1, p10.2)) else
  if (V8 4 582 0) = 5 then (bnd (f_X9_giveBack kb o1 0 V8) fun p12 =>
  some (0, p12)) else
  if (V8 4 582 0) = 6 then (bnd (f_X7_serve kb o0 o1 (V8 0 582 0) V8) fun p14 =>
  some (0, p14)) else
  lt (f_X2_enter kb o1 582 v3 V8) fun V15 =>
  some (0, V15)) else (some (v4, V2))
def f_X2_branches (kb : Nat) (o0 : Nat) (x1 : Int32) (V : HV) : Bool :=
  lt (f_X2_aField x1) fun v1 =>
  lt (V 0 (f_X9_reg o0 v1) 0) fun v2 =>
  lt (f_X2_bField x1) fun v3 =>
  lt (V 0 (f_X9_reg o0 v3) 0) fun v4 =>
  lt (f_X2_f x1) fun v5 =>
  if v5 = 0 then (lt (if v2 = v4 then (true) else (false) : Bool) fun v7 =>
  v7) else
  if v5 = 1 then (lt (if v2 = v4 then (false) else (true) : Bool) fun v12 =>
  v12) else
  if v5 = 4 then (lt (if v4 ≤ v2 then (false) else (true) : Bool) fun v17 =>
  v17) else
  if v5 = 5 then (lt (if v2 < v4 then (false) else (true) : Bool) fun v22 =>
  v22) else
  if v5 = 6 then (lt (f_X11_unsigned v2) fun v27 =>
  lt (f_X11_unsigned v4) fun v28 =>
  lt (if 0 ≤ (lg_cmp v27 v28) then (false) else (true) : Bool) fun v29 =>
  v29) else
  lt (f_X11_unsigned v2) fun v33 =>
  lt (f_X11_unsigned v4) fun v34 =>
  lt (if (lg_cmp v33 v34) < 0 then (false) else (true) : Bool) fun v35 =>
  v35
def f_X2_combine (x0 : Int32) (x1 : Int32) (x2 : Int32) (x3 : Bool) : Int32 :=
  if x0 = 0 then (lt (if x3 = true then ((x1 - x2)) else ((x1 + x2)) : Int32) fun v2 =>
  v2) else
  if x0 = 1 then ((x1 <<< ((x2 &&& 31) &&& 31))) else
  if x0 = 2 then (lt (if x2 ≤ x1 then (false) else (true) : Bool) fun v8 =>
  (b2i v8)) else
  if x0 = 3 then (lt (f_X11_unsigned x1) fun v13 =>
  lt (f_X11_unsigned x2) fun v14 =>
  lt (if 0 ≤ (lg_cmp v13 v14) then (false) else (true) : Bool) fun v15 =>
  (b2i v15)) else
  if x0 = 4 then ((x1 ^^^ x2)) else
  if x0 = 5 then (lt (if x3 = true then ((x1 >>> ((x2 &&& 31) &&& 31))) else ((((x1).toUInt32 >>> (Int32.toUInt32 (x2 &&& 31) &&& Int32.toUInt32 31)).toInt32)) : Int32) fun v21 =>
  v21) else
  if x0 = 6 then ((x1 ||| x2)) else
  (x1 &&& x2)
def f_X2_withImmediate (kb : Nat) (o0 : Nat) (x1 : Int32) (V : HV) : Int32 :=
  lt (f_X2_f x1) fun v1 =>
  lt (if v1 = 5 then (if (f_X2_g x1) = 32 then (true) else (false)) else (false) : Bool) fun v2 =>
  lt (f_X2_aField x1) fun v4 =>
  lt (f_X2_immediate x1) fun v5 =>
  lt (f_X2_combine v1 (V 0 (f_X9_reg o0 v4) 0) v5 v2) fun v6 =>
  v6
def f_X2_multiply (x0 : Int32) (x1 : Int32) (x2 : Int32) : Int32 :=
  if x0 = 0 then ((x1 * x2)) else
  if x0 = 1 then ((((x1.toInt64 * x2.toInt64) >>> (Int32.toInt64 (32 : Int32) &&& 63)).toInt32)) else
  if x0 = 2 then (lt (f_X11_unsigned x2) fun v4 =>
  (((x1.toInt64 * v4) >>> (Int32.toInt64 (32 : Int32) &&& 63)).toInt32)) else
  lt (f_X11_unsigned x1) fun v5 =>
  lt (f_X11_unsigned x2) fun v6 =>
  ((((v5 * v6).toUInt64 >>> ((Int32.toInt64 (32 : Int32)).toUInt64 &&& Int64.toUInt64 63)).toInt64).toInt32)
def f_X2_divide (x0 : Int32) (x1 : Int32) (x2 : Int32) : Option (Int32) :=
  lt (if 6 ≤ x0 then (false) else (true) : Bool) fun v1 =>
  if x2 = 0 then (lt (if v1 = true then ((-1)) else (x1) : Int32) fun v23 =>
  some v23) else (lt (if x0 = 4 then (true) else (if x0 = 6 then (true) else (false)) : Bool) fun v4 =>
  lt (if v4 = true then (x1.toInt64) else ((f_X11_unsigned x1)) : Int64) fun v6 =>
  lt (if v4 = true then (x2.toInt64) else ((f_X11_unsigned x2)) : Int64) fun v8 =>
  jn (fun v10 =>
  some v10.toInt32) fun k11 =>
  if v1 = true then (chk (¬ v8 = 0) <|
  k11 (v6 / v8)) else (chk (¬ v8 = 0) <|
  k11 (v6 - v6 / v8 * v8)))
def f_X2_withRegisters (kb : Nat) (o0 : Nat) (x1 : Int32) (V : HV) : Option (Int32) :=
  lt (f_X2_aField x1) fun v1 =>
  lt (V 0 (f_X9_reg o0 v1) 0) fun v2 =>
  lt (f_X2_bField x1) fun v3 =>
  lt (V 0 (f_X9_reg o0 v3) 0) fun v4 =>
  lt (f_X2_g x1) fun v5 =>
  if v5 = 1 then (lt (f_X2_f x1) fun v7 =>
  if 4 ≤ v7 then (lt (f_X2_f x1) fun v9 =>
  bnd (f_X2_divide v9 v2 v4) fun p10 =>
  some p10) else (lt (f_X2_f x1) fun v11 =>
  lt (f_X2_multiply v11 v2 v4) fun v12 =>
  some v12)) else (lt (f_X2_f x1) fun v13 =>
  lt (f_X2_g x1) fun v14 =>
  lt (if v14 = 32 then (true) else (false) : Bool) fun v15 =>
  lt (f_X2_combine v13 v2 v4 v15) fun v17 =>
  some v17)
def f_X2_sizeOf (x0 : Int32) : Int32 :=
  lt (if x0 = 3 then (16) else ((1 <<< ((x0 &&& 3) &&& 31))) : Int32) fun v1 =>
  v1
def f_X2_isDevice (x0 : Int32) : Bool :=
  lt (f_X11_unsigned x0) fun v1 =>
  lt (if (lg_cmp v1 (268435456 : Int64)) < 0 then (false) else (true) : Bool) fun v2 =>
  v2
def f_X6_at (kb : Nat) (o0 : Nat) (x1 : Int32) (V : HV) : Int32 :=
  if x1 < (Int32.ofNat (if o0 = 0 then 64 else 500)) then (x1) else ((x1 - (Int32.ofNat (if o0 = 0 then 64 else 500))))
def f_X6_pull (kb : Nat) (o0 : Nat) (V : HV) : Option (Int32 × HV) :=
  if (V 502 o0 0) ≤ 0 then (some ((-1), V)) else (if (V 501 o0 0) < 0 then (some ((-1), V)) else (if (V 501 o0 0) < (Int32.ofNat (if o0 = 0 then 64 else 500)) then (chk (inb (V 501 o0 0) (if o0 = 0 then 64 else 500)) <|
  lt ((V 2000 o0 (V 501 o0 0).toNatClampNeg) &&& 255) fun v5 =>
  lt (f_X6_at kb o0 ((V 501 o0 0) + 1) V) fun v6 =>
  lt (sv V 501 o0 0 v6) fun V7 =>
  lt (sv V7 502 o0 0 ((V7 502 o0 0) - 1)) fun V8 =>
  some (v5, V8)) else (some ((-1), V))))
def f_X10_readDevice (kb : Nat) (o0 : Nat) (o1 : Nat) (x2 : Int32) (V : HV) : Option (Int32 × HV) :=
  if (x2 - 268435456) = 0 then (bnd (f_X6_pull kb 0 V) fun p2 =>
  some (p2.1, p2.2)) else
  if (x2 - 268435456) = 4 then (some ((V 810 o0 0), V)) else
  if (x2 - 268435456) = 8 then (some ((V 700 o1 0), V)) else
  some (0, V)
def f_X8_loadCap (kb : Nat) (o0 : Nat) (x1 : Int32) (o2 : Nat) (x3 : Bool) (V : HV) : Option (HV) :=
  bnd (f_X8_load kb o0 (x1 + 12) 4 V) fun p1 =>
  bnd (f_X8_load kb o0 x1 4 V) fun p2 =>
  bnd (f_X8_load kb o0 (x1 + 4) 4 V) fun p3 =>
  bnd (f_X8_load kb o0 (x1 + 8) 4 V) fun p4 =>
  jn (fun v5 =>
  lt (f_X0_set kb o2 p2 p3 p4 (p1 &&& 255) ((p1 >>> ((8 : Int32) &&& 31)) &&& 255) v5 V) fun V8 =>
  bnd (f_X8_filter kb o0 o2 V8) fun p9 =>
  some p9) fun k6 =>
  jn (k6 false) fun k10 =>
  if x3 = true then (bnd (f_X8_isMarked kb o0 x1 1 V) fun p13 =>
  if p13 = true then (k6 true) else (k10)) else (k10)
def f_X2_withSign (x0 : Int32) (x1 : Int32) : Int32 :=
  if x0 = 0 then (x1.toInt8.toInt32) else
  if x0 = 1 then (x1.toInt16.toInt32) else
  x1
def f_X2_load (kb : Nat) (o0 : Nat) (o1 : Nat) (x2 : Int32) (V : HV) : Option (Int32 × HV) :=
  lt (f_X2_aField x2) fun v1 =>
  lt (f_X2_dField x2) fun v2 =>
  lt (f_X2_f x2) fun v3 =>
  lt (f_X2_immediate x2) fun v4 =>
  lt ((V 0 (f_X9_reg o1 v1) 0) + v4) fun v5 =>
  lt (f_X2_sizeOf v3) fun v6 =>
  lt (f_X0_faultFor kb (f_X9_reg o1 v1) 1 v5 v6 V) fun v7 =>
  if v7 = 0 then (lt (f_X2_isDevice v5) fun v9 =>
  if v9 = true then (if v3 = 2 then (bnd (f_X10_readDevice kb o0 o1 v5 V) fun p19 =>
  lt (f_X0_number kb (f_X9_reg o1 v2) p19.1 p19.2) fun V20 =>
  some (0, V20)) else (some (5, V))) else (if v3 = 3 then (lt (f_X0_has kb (f_X9_reg o1 v1) 8 V) fun v16 =>
  bnd (f_X8_loadCap kb 0 v5 (f_X9_reg o1 v2) v16 V) fun p17 =>
  some (0, p17)) else (lt (f_X2_sizeOf v3) fun v12 =>
  bnd (f_X8_load kb 0 v5 v12 V) fun p13 =>
  lt (f_X2_withSign v3 p13) fun v14 =>
  lt (f_X0_number kb (f_X9_reg o1 v2) v14 V) fun V15 =>
  some (0, V15)))) else (some (v7, V))
def f_X6_push (kb : Nat) (o0 : Nat) (x1 : Int32) (V : HV) : Option (HV) :=
  jn (fun V1 =>
  lt (f_X6_at kb o0 ((V1 501 o0 0) + (V1 502 o0 0)) V1) fun v4 =>
  if v4 < 0 then (some V1) else (if (Int32.ofNat (if o0 = 0 then 64 else 500)) ≤ v4 then (some V1) else (chk (inb v4 (if o0 = 0 then 64 else 500)) <|
  lt (sv V1 2000 o0 (v4).toNatClampNeg ((x1.toInt8.toInt32).toInt8.toInt32)) fun V8 =>
  lt (sv V8 502 o0 0 ((V8 502 o0 0) + 1)) fun V9 =>
  some V9))) fun k2 =>
  if (V 502 o0 0) < (Int32.ofNat (if o0 = 0 then 64 else 500)) then (k2 V) else (bnd (f_X6_pull kb o0 V) fun p11 =>
  k2 p11.2)
def f_X10_writeDevice (kb : Nat) (o0 : Nat) (x1 : Int32) (x2 : Int32) (V : HV) : Option (HV) :=
  if x1 = 268435456 then (bnd (f_X6_push kb 1 x2 V) fun p2 =>
  some p2) else (some V)
def f_X8_write_L15 (x1 : Int32) (x2 : Int32) (kb : Nat) (k3 : HV → Option (HV)) : Nat → Int32 → Int32 → HV → Option (HV)
  | 0, _, _, _ => none
  | n10 + 1, v7, v8, V9 =>
  if x2 ≤ v8 then (k3 V9) else (chk (inb (x1 + v8) (1024 * kb)) <|
  lt (sv V9 2300 0 (x1 + v8).toNatClampNeg ((v7.toInt8.toInt32).toInt8.toInt32)) fun V14 =>
  lt (((v7).toUInt32 >>> (Int32.toUInt32 (8 : Int32) &&& Int32.toUInt32 31)).toInt32) fun v15 =>
  lt (v8 + 1) fun v16 =>
  f_X8_write_L15 x1 x2 kb k3 n10 v15 v16 V14)
def f_X8_write (kb : Nat) (o0 : Nat) (x1 : Int32) (x2 : Int32) (x3 : Int32) (V : HV) : Option (HV) :=
  lt (f_X8_has kb o0 x1 x2 V) fun v1 =>
  if v1 = true then (jn (fun V5 =>
  bnd (f_X8_mark kb o0 x1 1 false V5) fun p6 =>
  some p6) fun k3 =>
  f_X8_write_L15 x1 x2 kb k3 FU x3 0 V) else (some V)
def f_X8_writeCap (kb : Nat) (o0 : Nat) (x1 : Int32) (o2 : Nat) (x3 : Bool) (V : HV) : Option (HV) :=
  bnd (f_X8_write kb o0 x1 4 (V 0 o2 0) V) fun p1 =>
  bnd (f_X8_write kb o0 (x1 + 4) 4 (p1 1 o2 0) p1) fun p2 =>
  bnd (f_X8_write kb o0 (x1 + 8) 4 (p2 2 o2 0) p2) fun p3 =>
  bnd (f_X8_write kb o0 (x1 + 12) 4 ((p3 3 o2 0) ||| ((p3 4 o2 0) <<< ((8 : Int32) &&& 31))) p3) fun p4 =>
  bnd (f_X8_mark kb o0 x1 1 x3 p4) fun p5 =>
  some p5
def f_X2_write (kb : Nat) (o0 : Nat) (o1 : Nat) (x2 : Int32) (V : HV) : Option (Int32 × HV) :=
  lt (f_X2_aField x2) fun v1 =>
  lt (f_X2_bField x2) fun v2 =>
  lt (f_X2_f x2) fun v3 =>
  lt (f_X2_storeOffset x2) fun v4 =>
  lt ((V 0 (f_X9_reg o1 v1) 0) + v4) fun v5 =>
  lt (f_X2_sizeOf v3) fun v6 =>
  lt (f_X0_faultFor kb (f_X9_reg o1 v1) 2 v5 v6 V) fun v7 =>
  if v7 = 0 then (lt (f_X2_isDevice v5) fun v9 =>
  if v9 = true then (if v3 = 2 then (bnd (f_X10_writeDevice kb o0 v5 (V 0 (f_X9_reg o1 v2) 0) V) fun p28 =>
  some (0, p28)) else (some (5, V))) else (if v3 = 3 then (lt (f_X0_has kb (f_X9_reg o1 v1) 16 V) fun v14 =>
  lt (if v14 = true then (if (f_X0_has kb (f_X9_reg o1 v2) 64 V) = true then (true) else (if (f_X0_has kb (f_X9_reg o1 v1) 128 V) = true then (true) else (false))) else (false) : Bool) fun v15 =>
  lt (if (i2b (V 5 (f_X9_reg o1 v2) 0)) = true then (if v15 = true then (true) else (false)) else (false) : Bool) fun v17 =>
  bnd (f_X8_writeCap kb 0 v5 (f_X9_reg o1 v2) v17 V) fun p19 =>
  some (0, p19)) else (lt (f_X2_sizeOf v3) fun v12 =>
  bnd (f_X8_write kb 0 v5 v12 (V 0 (f_X9_reg o1 v2) 0) V) fun p13 =>
  some (0, p13)))) else (some (v7, V))
def f_X2_derive (kb : Nat) (o0 : Nat) (o1 : Nat) (x2 : Int32) (V : HV) : HV :=
  if x2 = 0 then (lt (f_X0_moveTo kb o0 ((V 0 o0 0) + (V 0 o1 0)) V) fun V2 =>
  V2) else
  if x2 = 1 then (lt (f_X0_moveTo kb o0 (V 0 o1 0) V) fun V4 =>
  V4) else
  if x2 = 2 then (lt (f_X11_unsigned (V 0 o1 0)) fun v6 =>
  lt (f_X0_narrow kb o0 v6 V) fun V7 =>
  V7) else
  if x2 = 3 then (lt (f_X0_limit kb o0 (V 0 o1 0) V) fun V9 =>
  V9) else
  if x2 = 4 then (lt (f_X0_seal kb o0 o1 V) fun V11 =>
  V11) else
  if x2 = 5 then (lt (f_X0_unseal kb o0 o1 V) fun V13 =>
  V13) else
  if x2 = 6 then (lt (f_X0_isWithin kb o1 o0 V) fun v15 =>
  lt (if v15 = true then (true) else (false) : Bool) fun v16 =>
  lt (f_X0_number kb o0 (b2i v16) V) fun V18 =>
  V18) else
  lt (f_X0_isLike kb o1 o0 V) fun v21 =>
  lt (if v21 = true then (true) else (false) : Bool) fun v22 =>
  lt (f_X0_number kb o0 (b2i v22) V) fun V24 =>
  V24
def f_X2_inspect (kb : Nat) (o0 : Nat) (x1 : Int32) (x2 : Bool) (V : HV) : HV :=
  if x1 = 0 then (lt (f_X0_number kb o0 (V 3 o0 0) V) fun V2 =>
  V2) else
  if x1 = 1 then (lt (f_X0_number kb o0 (V 4 o0 0) V) fun V4 =>
  V4) else
  if x1 = 2 then (lt (f_X0_number kb o0 (V 1 o0 0) V) fun V6 =>
  V6) else
  if x1 = 3 then (lt (f_X0_number kb o0 ((V 2 o0 0) - (V 1 o0 0)) V) fun V8 =>
  V8) else
  if x1 = 4 then (lt (if (i2b (V 5 o0 0)) = true then (true) else (false) : Bool) fun v10 =>
  lt (f_X0_number kb o0 (b2i v10) V) fun V12 =>
  V12) else
  if x1 = 5 then (lt (f_X0_number kb o0 (V 2 o0 0) V) fun V16 =>
  V16) else
  if x1 = 6 then (lt (f_X0_number kb o0 (V 0 o0 0) V) fun V18 =>
  V18) else
  if x1 = 7 then (lt (if x2 = true then (true) else (false) : Bool) fun v20 =>
  lt (f_X0_number kb o0 (b2i v20) V) fun V22 =>
  V22) else
  if x1 = 8 then (V) else
  if x1 = 9 then (lt (sv V 5 o0 0 (b2i false)) fun V27 =>
  V27) else
  lt (f_X0_becomeEntry kb o0 (x1 - 9) V) fun V28 =>
  V28
def f_X2_capability (kb : Nat) (o0 : Nat) (o1 : Nat) (x2 : Int32) (V : HV) : HV :=
  lt (f_X2_aField x2) fun v1 =>
  lt (f_X0_copy kb 582 (f_X9_reg o1 v1) V) fun V2 =>
  lt (f_X2_f x2) fun v3 =>
  jn (fun V4 =>
  lt (f_X2_dField x2) fun v7 =>
  lt (f_X0_copy kb (f_X9_reg o1 v7) 582 V4) fun V8 =>
  V8) fun k5 =>
  if v3 = 0 then (lt (f_X2_bField x2) fun v10 =>
  lt (f_X2_g x2) fun v11 =>
  lt (f_X2_derive kb 582 (f_X9_reg o1 v10) v11 V2) fun V12 =>
  k5 V12) else
  if v3 = 1 then (lt (f_X2_bField x2) fun v14 =>
  lt (f_X2_inspect kb 582 v14 (i2b (V2 710 o1 0)) V2) fun V15 =>
  k5 V15) else
  if v3 = 2 then (lt (f_X2_immediate x2) fun v17 =>
  lt (f_X0_moveTo kb 582 ((V2 0 (f_X9_reg o1 v1) 0) + v17) V2) fun V18 =>
  k5 V18) else
  lt (f_X0_narrow kb 582 ((((x2).toUInt32 >>> (Int32.toUInt32 (20 : Int32) &&& Int32.toUInt32 31)).toInt32).toInt64) V2) fun V19 =>
  k5 V19
def f_X2_execute (kb : Nat) (o0 : Nat) (o1 : Nat) (x2 : Int32) (V : HV) : Option (Int32 × HV) :=
  lt (f_X2_dField x2) fun v1 =>
  jn (fun v2 v3 V4 =>
  if v2 = 0 then (lt (sv V4 0 (17 * o1 + 16) 0 ((V4 0 (17 * o1 + 16) 0) + v3)) fun V8 =>
  some (v2, V8)) else (some (v2, V4))) fun k5 =>
  if (x2 &&& 127) = 3 then (bnd (f_X2_load kb o0 o1 x2 V) fun p10 =>
  lt p10.1 fun v11 =>
  k5 v11 4 p10.2) else
  if (x2 &&& 127) = 19 then (lt (f_X2_withImmediate kb o1 x2 V) fun v13 =>
  lt (f_X0_number kb (f_X9_reg o1 v1) v13 V) fun V14 =>
  k5 0 4 V14) else
  if (x2 &&& 127) = 23 then (lt (f_X0_copy kb (f_X9_reg o1 v1) (17 * o1 + 16) V) fun V16 =>
  lt (sv V16 0 (f_X9_reg o1 v1) 0 ((V16 0 (f_X9_reg o1 v1) 0) + (x2 &&& (-4096)))) fun V17 =>
  k5 0 4 V17) else
  if (x2 &&& 127) = 35 then (bnd (f_X2_write kb o0 o1 x2 V) fun p19 =>
  lt p19.1 fun v20 =>
  k5 v20 4 p19.2) else
  if (x2 &&& 127) = 51 then (bnd (f_X2_withRegisters kb o1 x2 V) fun p22 =>
  lt (f_X0_number kb (f_X9_reg o1 v1) p22 V) fun V23 =>
  k5 0 4 V23) else
  if (x2 &&& 127) = 55 then (lt (f_X0_number kb (f_X9_reg o1 v1) (x2 &&& (-4096)) V) fun V25 =>
  k5 0 4 V25) else
  if (x2 &&& 127) = 99 then (lt (f_X2_branches kb o1 x2 V) fun v27 =>
  lt (if v27 = true then ((f_X2_branchOffset x2)) else (4) : Int32) fun v28 =>
  k5 0 v28 V) else
  if (x2 &&& 127) = 111 then (lt (f_X2_link kb o1 (f_X9_reg o1 v1) V) fun V33 =>
  lt (f_X2_jumpOffset x2) fun v34 =>
  k5 0 v34 V33) else
  lt (f_X2_capability kb o0 o1 x2 V) fun V35 =>
  k5 0 4 V35
def f_X9_fail (kb : Nat) (o0 : Nat) (o1 : Nat) (x2 : Int32) (V : HV) : Option (HV) :=
  lt (sv V 716 o0 0 x2) fun V1 =>
  bnd (f_X9_giveBack kb o0 o1 V1) fun p2 =>
  if (p2 711 o0 0) = 3 then (some p2) else (lt (f_X0_number kb (f_X9_reg o0 10) (-1) p2) fun V4 =>
  lt (f_X0_number kb (f_X9_reg o0 11) x2 V4) fun V5 =>
  some V5)
def f_X2_instruction (kb : Nat) (o0 : Nat) (V : HV) : Option (HV) :=
  bnd (f_X10_taskAt kb o0 (V 811 o0 0) V) fun p1 =>
  onn p1 (some V) fun a2 =>
  chk (a2 < 6) <|
  lt (f_X0_faultFor kb (17 * a2 + 16) 4 (V 0 (17 * a2 + 16) 0) 4 V) fun v4 =>
  jn (fun v5 V6 =>
  jn (fun V9 =>
  lt (f_X0_clear kb (f_X9_reg a2 0) V9) fun V12 =>
  some V12) fun k10 =>
  if v5 = 0 then (lt (sv V6 717 a2 0 ((V6 717 a2 0) + 1)) fun V16 =>
  k10 V16) else (lt (sv V6 813 o0 0 ((V6 813 o0 0) + 1)) fun V14 =>
  bnd (f_X9_fail kb a2 0 v5 V14) fun p15 =>
  k10 p15)) fun k7 =>
  if v4 = 0 then (bnd (f_X8_load kb 0 (V 0 (17 * a2 + 16) 0) 4 V) fun p18 =>
  lt (f_X2_isLegal p18) fun v19 =>
  if v19 = true then (if (p18 &&& 127) = 103 then (bnd (f_X2_jumpTo kb o0 a2 p18 V) fun p24 =>
  lt p24.1 fun v25 =>
  k7 v25 p24.2) else (bnd (f_X2_execute kb o0 a2 p18 V) fun p22 =>
  lt p22.1 fun v23 =>
  k7 v23 p22.2)) else (k7 6 V)) else (k7 v4 V)
def f_J7_fill_53178_25_L5 (o0 : Nat) (x1 : Int32) (kb : Nat) (v1 : Int32) (k2 : HV → Option (HV)) : Nat → Int32 → HV → Option (HV)
  | 0, _, _ => none
  | n7 + 1, v5, V6 =>
  if v1 ≤ v5 then (k2 V6) else (chk (inb v5 (64 * kb)) <|
  lt (sv V6 2500 o0 (v5).toNatClampNeg x1) fun V11 =>
  lt (v5 + 1) fun v12 =>
  f_J7_fill_53178_25_L5 o0 x1 kb v1 k2 n7 v12 V11)
def f_J7_fill_53178_25 (kb : Nat) (o0 : Nat) (x1 : Int32) (V : HV) : Option (HV) :=
  lt (Int32.ofNat (64 * kb)) fun v1 =>
  jn (fun V4 =>
  some V4) fun k2 =>
  f_J7_fill_53178_25_L5 o0 x1 kb v1 k2 FU 0 V
def f_J7_fill_53178_26_L5 (o0 : Nat) (x1 : Int32) (kb : Nat) (v1 : Int32) (k2 : HV → Option (HV)) : Nat → Int32 → HV → Option (HV)
  | 0, _, _ => none
  | n7 + 1, v5, V6 =>
  if v1 ≤ v5 then (k2 V6) else (chk (inb v5 (64 * kb)) <|
  lt (sv V6 2600 o0 (v5).toNatClampNeg x1) fun V11 =>
  lt (v5 + 1) fun v12 =>
  f_J7_fill_53178_26_L5 o0 x1 kb v1 k2 n7 v12 V11)
def f_J7_fill_53178_26 (kb : Nat) (o0 : Nat) (x1 : Int32) (V : HV) : Option (HV) :=
  lt (Int32.ofNat (64 * kb)) fun v1 =>
  jn (fun V4 =>
  some V4) fun k2 =>
  f_J7_fill_53178_26_L5 o0 x1 kb v1 k2 FU 0 V
def f_J9_max_7cf53 (x0 : Int32) (x1 : Int32) : Int32 :=
  lt (if x0 < x1 then (x1) else (x0) : Int32) fun v1 =>
  v1
def f_X4_reset (kb : Nat) (o0 : Nat) (x1 : Int32) (V : HV) : Option (HV) :=
  bnd (f_J7_fill_53178_25 kb 0 0 V) fun p1 =>
  bnd (f_J7_fill_53178_26 kb 0 0 p1) fun p2 =>
  lt (f_J9_max_7cf53 0 x1) fun v3 =>
  lt (sv p2 302 o0 0 v3) fun V4 =>
  lt (sv V4 303 o0 0 0) fun V5 =>
  lt (sv V5 304 o0 0 0) fun V6 =>
  lt (sv V6 305 o0 0 0) fun V7 =>
  lt (sv V7 306 o0 0 0) fun V8 =>
  lt (sv V8 307 o0 0 (-1)) fun V9 =>
  lt (sv V9 308 o0 0 (b2i false)) fun V10 =>
  some V10
def f_X4_beginSweepIfDue_L78 (kb : Nat) (k10 : HV → Option (HV)) : Nat → Int32 → HV → Option (HV)
  | 0, _, _ => none
  | n15 + 1, v13, V14 =>
  if (Int32.ofNat (64 * kb)) ≤ v13 then (k10 V14) else (chk (inb v13 (64 * kb)) <|
  jn (fun V19 =>
  chk (inb v13 (64 * kb)) <|
  lt (f_J9_max_7cf53 1 (V19 2500 0 (v13).toNatClampNeg)) fun v23 =>
  lt (v13 + v23) fun v24 =>
  f_X4_beginSweepIfDue_L78 kb k10 n15 v24 V19) fun k20 =>
  if (V14 2600 0 (v13).toNatClampNeg) = 2 then (chk (inb v13 (64 * kb)) <|
  lt (sv V14 2600 0 (v13).toNatClampNeg 3) fun V27 =>
  k20 V27) else (k20 V14))
def f_X4_beginSweepIfDue (kb : Nat) (o0 : Nat) (V : HV) : Option (HV) :=
  jn (fun v1 =>
  lt (if (V 305 o0 0) ≤ 0 then (false) else (if v1 = true then (false) else (true)) : Bool) fun v4 =>
  lt (sv V 308 o0 0 (b2i ((i2b (V 308 o0 0)) && v4))) fun V6 =>
  if v1 = true then (lt (sv V6 307 o0 0 0) fun V8 =>
  lt (V8 302 o0 0) fun v9 =>
  jn (fun V12 =>
  some V12) fun k10 =>
  f_X4_beginSweepIfDue_L78 kb k10 FU v9 V8) else (some V6)) fun k2 =>
  jn (k2 false) fun k31 =>
  if (V 305 o0 0) ≤ 0 then (k31) else (jn (k2 true) fun k34 =>
  if (i2b (V 308 o0 0)) = true then (k34) else (if (4 * (V 305 o0 0)) < ((Int32.ofNat (64 * kb)) - (V 302 o0 0)) then (k31) else (k34)))
def f_X4_endSweep_L20 (o0 : Nat) (o1 : Nat) (kb : Nat) (k4 : HV → Option (HV)) : Nat → Int32 → HV → Option (HV)
  | 0, _, _ => none
  | n9 + 1, v7, V8 =>
  if (Int32.ofNat (64 * kb)) ≤ v7 then (k4 V8) else (chk (inb v7 (64 * kb)) <|
  lt (V8 2500 0 (v7).toNatClampNeg) fun v13 =>
  chk (inb v7 (64 * kb)) <|
  jn (fun V15 =>
  lt (f_J9_max_7cf53 1 v13) fun v18 =>
  lt (v7 + v18) fun v19 =>
  f_X4_endSweep_L20 o0 o1 kb k4 n9 v19 V15) fun k16 =>
  if (V8 2600 0 (v7).toNatClampNeg) = 3 then (chk (inb v7 (64 * kb)) <|
  lt (sv V8 2600 0 (v7).toNatClampNeg 0) fun V22 =>
  chk (inb v7 (64 * kb)) <|
  lt (sv V22 2500 0 (v7).toNatClampNeg 0) fun V24 =>
  lt (sv V24 305 o0 0 ((V24 305 o0 0) - v13)) fun V25 =>
  bnd (f_X4_revoke kb o0 o1 v7 v13 false V25) fun p26 =>
  k16 p26) else (k16 V8))
def f_X4_endSweep (kb : Nat) (o0 : Nat) (o1 : Nat) (V : HV) : Option (HV) :=
  lt (sv V 307 o0 0 (-1)) fun V1 =>
  lt (sv V1 306 o0 0 ((V1 306 o0 0) + 1)) fun V2 =>
  lt (V2 302 o0 0) fun v3 =>
  jn (fun V6 =>
  some V6) fun k4 =>
  f_X4_endSweep_L20 o0 o1 kb k4 FU v3 V2
def f_X4_placeOf_L7 (kb : Nat) (V : HV) (k2 : Int32 → Option (Int32)) : Nat → Int32 → Int32 → Option (Int32)
  | 0, _, _ => none
  | n7 + 1, v5, v6 =>
  if (Int32.ofNat (64 * kb)) ≤ v6 then (some (-1)) else (chk (inb v6 (64 * kb)) <|
  jn (fun v11 =>
  chk (inb v6 (64 * kb)) <|
  lt (f_J9_max_7cf53 1 (V 2500 0 (v6).toNatClampNeg)) fun v15 =>
  lt (v6 + v15) fun v16 =>
  f_X4_placeOf_L7 kb V k2 n7 v11 v16) fun k12 =>
  if (V 2600 0 (v6).toNatClampNeg) = 1 then (if v5 = 0 then (k2 v6) else (lt (v5 + (-1)) fun v19 =>
  k12 v19)) else (k12 v5))
def f_X4_placeOf (kb : Nat) (o0 : Nat) (x1 : Int32) (V : HV) : Option (Int32) :=
  lt (V 302 o0 0) fun v1 =>
  jn (fun v4 =>
  some (v4 * 16)) fun k2 =>
  f_X4_placeOf_L7 kb V k2 FU x1 v1
def f_X4_part (kb : Nat) (o0 : Nat) (x1 : Int32) (V : HV) : Option (Int32) :=
  if x1 = 0 then (some ((V 302 o0 0) * 16)) else
  if x1 = 1 then (some (V 303 o0 0)) else
  if x1 = 2 then (some ((V 304 o0 0) * 16)) else
  if x1 = 3 then (some ((V 305 o0 0) * 16)) else
  if x1 = 4 then (lt (f_X4_freeBytes kb o0 V) fun v6 =>
  some v6) else
  if x1 = 5 then (some (V 306 o0 0)) else
  if x1 = 6 then (some (V 307 o0 0)) else
  if x1 < 8 then (some (-1)) else (bnd (f_X4_placeOf kb o0 (x1 - 8) V) fun p10 =>
  some p10)
def f_X5_hasRoom (kb : Nat) (o0 : Nat) (x1 : Int32) (V : HV) : Bool :=
  lt (if 5000 < ((V 401 o0 0) + x1) then (false) else (true) : Bool) fun v1 =>
  v1
def f_X5_append_L3 (o0 : Nat) (x1 : Int32) (k1 : HV → Option (HV)) : Nat → Int32 → HV → Option (HV)
  | 0, _, _ => none
  | n6 + 1, v4, V5 =>
  if v4 < 0 then (k1 V5) else (jn (fun V9 =>
  lt (v4 + (-8)) fun v12 =>
  f_X5_append_L3 o0 x1 k1 n6 v12 V9) fun k10 =>
  if (V5 401 o0 0) < 0 then (k10 V5) else (if 5000 ≤ (V5 401 o0 0) then (k10 V5) else (chk (inb (V5 401 o0 0) 5000) <|
  lt (sv V5 3100 0 (V5 401 o0 0).toNatClampNeg ((((((x1).toUInt32 >>> (Int32.toUInt32 v4 &&& Int32.toUInt32 31)).toInt32).toInt8.toInt32)).toInt8.toInt32)) fun V16 =>
  lt (sv V16 401 o0 0 ((V16 401 o0 0) + 1)) fun V17 =>
  k10 V17)))
def f_X5_append (kb : Nat) (o0 : Nat) (x1 : Int32) (V : HV) : Option (HV) :=
  jn (fun V3 =>
  some V3) fun k1 =>
  f_X5_append_L3 o0 x1 k1 FU 24 V
def f_X5_byteAt (kb : Nat) (o0 : Nat) (x1 : Int32) (V : HV) : Option (Int32) :=
  if x1 < 0 then (some 0) else (if 5000 ≤ x1 then (some 0) else (chk (inb x1 5000) <|
  some ((V 3100 0 (x1).toNatClampNeg) &&& 255)))
def f_J7_fill_031fb_23_L5 (o0 : Nat) (x1 : Int32) (kb : Nat) (v1 : Int32) (k2 : HV → Option (HV)) : Nat → Int32 → HV → Option (HV)
  | 0, _, _ => none
  | n7 + 1, v5, V6 =>
  if v1 ≤ v5 then (k2 V6) else (chk (inb v5 (1024 * kb)) <|
  lt (sv V6 2300 o0 (v5).toNatClampNeg ((x1).toInt8.toInt32)) fun V11 =>
  lt (v5 + 1) fun v12 =>
  f_J7_fill_031fb_23_L5 o0 x1 kb v1 k2 n7 v12 V11)
def f_J7_fill_031fb_23 (kb : Nat) (o0 : Nat) (x1 : Int32) (V : HV) : Option (HV) :=
  lt (Int32.ofNat (1024 * kb)) fun v1 =>
  jn (fun V4 =>
  some V4) fun k2 =>
  f_J7_fill_031fb_23_L5 o0 x1 kb v1 k2 FU 0 V
def f_J7_fill_031fb_24_L5 (o0 : Nat) (x1 : Int32) (kb : Nat) (v1 : Int32) (k2 : HV → Option (HV)) : Nat → Int32 → HV → Option (HV)
  | 0, _, _ => none
  | n7 + 1, v5, V6 =>
  if v1 ≤ v5 then (k2 V6) else (chk (inb v5 (64 * kb)) <|
  lt (sv V6 2400 o0 (v5).toNatClampNeg ((x1).toInt8.toInt32)) fun V11 =>
  lt (v5 + 1) fun v12 =>
  f_J7_fill_031fb_24_L5 o0 x1 kb v1 k2 n7 v12 V11)
def f_J7_fill_031fb_24 (kb : Nat) (o0 : Nat) (x1 : Int32) (V : HV) : Option (HV) :=
  lt (Int32.ofNat (64 * kb)) fun v1 =>
  jn (fun V4 =>
  some V4) fun k2 =>
  f_J7_fill_031fb_24_L5 o0 x1 kb v1 k2 FU 0 V
def f_X8_reset (kb : Nat) (o0 : Nat) (V : HV) : Option (HV) :=
  bnd (f_J7_fill_031fb_23 kb 0 0 V) fun p1 =>
  bnd (f_J7_fill_031fb_24 kb 0 0 p1) fun p2 =>
  some p2
def f_X6_reset (kb : Nat) (o0 : Nat) (V : HV) : HV :=
  lt (sv V 501 o0 0 0) fun V1 =>
  lt (sv V1 502 o0 0 0) fun V2 =>
  V2
def f_X10_reset (kb : Nat) (o0 : Nat) (V : HV) : Option (HV) :=
  bnd (f_X8_reset kb 0 V) fun p1 =>
  bnd (f_X4_reset kb 0 0 p1) fun p2 =>
  lt (f_X6_reset kb 0 p2) fun V3 =>
  lt (f_X6_reset kb 1 V3) fun V4 =>
  lt (sv V4 807 o0 0 0) fun V5 =>
  lt (sv V5 808 o0 0 0) fun V6 =>
  lt (sv V6 809 o0 0 (b2i false)) fun V7 =>
  lt (sv V7 810 o0 0 0) fun V8 =>
  lt (sv V8 811 o0 0 (-1)) fun V9 =>
  lt (sv V9 812 o0 0 0) fun V10 =>
  lt (sv V10 813 o0 0 0) fun V11 =>
  lt (sv V11 814 o0 0 0) fun V12 =>
  lt (sv V12 815 o0 0 0) fun V13 =>
  lt (sv V13 816 o0 0 0) fun V14 =>
  some V14
def f_X5_fail (kb : Nat) (o0 : Nat) (x1 : Int32) (x2 : Int32) (V : HV) : HV :=
  if (V 404 o0 0) = 0 then (lt (sv V 404 o0 0 x1) fun V2 =>
  lt (sv V2 405 o0 0 x2) fun V3 =>
  V3) else (V)
def f_X5_number (kb : Nat) (o0 : Nat) (x1 : Int32) (x2 : Int32) (x3 : Int32) (V : HV) : Option (Int32 × HV) :=
  if (V 404 o0 0) = 0 then (if ((V 402 o0 0) + x1) ≤ (V 403 o0 0) then (jn (fun v3 =>
  jn (lt (f_X5_fail kb o0 2 (V 402 o0 0) V) fun V8 =>
  some (x2, V8)) fun k6 =>
  if v3 < x2 then (k6) else (if v3 ≤ x3 then (lt (sv V 402 o0 0 ((V 402 o0 0) + x1)) fun V11 =>
  some (v3, V11)) else (k6))) fun k4 =>
  if x1 = 2 then (bnd (f_X5_byteAt kb o0 (V 402 o0 0) V) fun p14 =>
  bnd (f_X5_byteAt kb o0 ((V 402 o0 0) + 1) V) fun p15 =>
  k4 (p14 + (256 * p15))) else (bnd (f_X5_byteAt kb o0 (V 402 o0 0) V) fun p13 =>
  k4 p13)) else (lt (f_X5_fail kb o0 1 (V 403 o0 0) V) fun V16 =>
  some (x2, V16))) else (some (x2, V))
def f_X5_readGlobalsPerms (kb : Nat) (o0 : Nat) (V : HV) : Option (HV) :=
  bnd (f_X5_number kb o0 1 1 27 V) fun p1 =>
  lt p1.1 fun v2 =>
  if (v2 &&& ((27 : Int32) ^^^ (-1))) = 0 then (some p1.2) else (lt (f_X5_fail kb o0 2 ((p1.2 402 o0 0) - 1) p1.2) fun V4 =>
  some V4)
def f_X5_readImport (kb : Nat) (o0 : Nat) (V : HV) : Option (HV) :=
  bnd (f_X5_number kb o0 1 0 4 V) fun p1 =>
  if p1.1 = 0 then (bnd (f_X5_number kb o0 1 0 255 p1.2) fun p3 =>
  bnd (f_X5_number kb o0 1 0 255 p3.2) fun p4 =>
  some p4.2) else
  if p1.1 = 1 then (bnd (f_X5_number kb o0 1 0 8 p1.2) fun p6 =>
  bnd (f_X5_number kb o0 1 0 0 p6.2) fun p7 =>
  some p7.2) else
  if p1.1 = 2 then (bnd (f_X5_number kb o0 1 1 3 p1.2) fun p9 =>
  bnd (f_X5_number kb o0 1 0 0 p9.2) fun p10 =>
  some p10.2) else
  if p1.1 = 3 then (bnd (f_X5_number kb o0 1 0 239 p1.2) fun p12 =>
  bnd (f_X5_number kb o0 1 1 16 p12.2) fun p13 =>
  some p13.2) else
  bnd (f_X5_number kb o0 1 0 255 p1.2) fun p14 =>
  bnd (f_X5_readGlobalsPerms kb o0 p14.2) fun p15 =>
  some p15
def f_X5_skip (kb : Nat) (o0 : Nat) (x1 : Int32) (V : HV) : HV :=
  if ((V 402 o0 0) + x1) ≤ (V 403 o0 0) then (lt (sv V 402 o0 0 ((V 402 o0 0) + x1)) fun V2 =>
  V2) else (lt (f_X5_fail kb o0 1 (V 403 o0 0) V) fun V3 =>
  V3)
def f_X5_readCompartment_L112 (o0 : Nat) (o1 : Nat) (kb : Nat) (k13 : HV → Option (HV)) : Nat → Int32 → HV → Option (HV)
  | 0, _, _ => none
  | n20 + 1, v18, V19 =>
  if (V19 105 o1 0) ≤ v18 then (k13 V19) else (bnd (f_X5_readImport kb o0 V19) fun p23 =>
  lt (v18 + 1) fun v24 =>
  f_X5_readCompartment_L112 o0 o1 kb k13 n20 v24 p23)
def f_X5_readCompartment_L51 (o0 : Nat) (o1 : Nat) (kb : Nat) (k9 : HV → Option (HV)) : Nat → Int32 → HV → Option (HV)
  | 0, _, _ => none
  | n27 + 1, v25, V26 =>
  if (V26 104 o1 0) ≤ v25 then (k9 V26) else (if 8 ≤ v25 then (k9 V26) else (bnd (f_X5_number kb o0 2 0 ((V26 102 o1 0) - 1) V26) fun p31 =>
  chk (inb v25 8) <|
  lt (sv p31.2 2700 o1 (v25).toNatClampNeg p31.1) fun V33 =>
  bnd (f_X5_number kb o0 1 1 3 V33) fun p34 =>
  chk (inb v25 8) <|
  lt (sv p34.2 2800 o1 (v25).toNatClampNeg p34.1) fun V36 =>
  lt (v25 + 1) fun v37 =>
  f_X5_readCompartment_L51 o0 o1 kb k9 n27 v37 V36))
def f_X5_readCompartment (kb : Nat) (o0 : Nat) (o1 : Nat) (V : HV) : Option (HV) :=
  bnd (f_X5_number kb o0 2 1 200 V) fun p1 =>
  lt (sv p1.2 102 o1 0 p1.1) fun V2 =>
  bnd (f_X5_number kb o0 1 0 32 V2) fun p3 =>
  lt (sv p3.2 103 o1 0 p3.1) fun V4 =>
  bnd (f_X5_number kb o0 1 0 8 V4) fun p5 =>
  lt (sv p5.2 104 o1 0 p5.1) fun V6 =>
  bnd (f_X5_number kb o0 1 0 16 V6) fun p7 =>
  lt (sv p7.2 105 o1 0 p7.1) fun V8 =>
  jn (fun V11 =>
  lt (sv V11 106 o1 0 (V11 402 o0 0)) fun V12 =>
  jn (fun V15 =>
  lt (sv V15 107 o1 0 (V15 402 o0 0)) fun V16 =>
  lt (f_X5_skip kb o0 ((V16 102 o1 0) * 4) V16) fun V17 =>
  some V17) fun k13 =>
  f_X5_readCompartment_L112 o0 o1 kb k13 FU 0 V12) fun k9 =>
  f_X5_readCompartment_L51 o0 o1 kb k9 FU 0 V8
def f_X5_readImage_L66 (o0 : Nat) (kb : Nat) (k9 : HV → Option (HV)) : Nat → Int32 → HV → Option (HV)
  | 0, _, _ => none
  | n14 + 1, v12, V13 =>
  if (V13 407 o0 0) ≤ v12 then (k9 V13) else (bnd (f_X5_number kb o0 1 0 255 V13) fun p17 =>
  bnd (f_X5_number kb o0 1 0 255 p17.2) fun p18 =>
  bnd (f_X5_number kb o0 1 0 7 p18.2) fun p19 =>
  bnd (f_X5_number kb o0 1 1 32 p19.2) fun p20 =>
  bnd (f_X5_number kb o0 1 0 16 p20.2) fun p21 =>
  lt (v12 + 1) fun v22 =>
  f_X5_readImage_L66 o0 kb k9 n14 v22 p21.2)
def f_X5_readImage_L26 (o0 : Nat) (kb : Nat) (k5 : HV → Option (HV)) : Nat → Int32 → HV → Option (HV)
  | 0, _, _ => none
  | n25 + 1, v23, V24 =>
  if (V24 406 o0 0) ≤ v23 then (k5 V24) else (if 8 ≤ v23 then (k5 V24) else (chk (inb v23 8) <|
  bnd (f_X5_readCompartment kb o0 ((v23).toNatClampNeg) V24) fun p30 =>
  lt (v23 + 1) fun v31 =>
  f_X5_readImage_L26 o0 kb k5 n25 v31 p30))
def f_X5_readImage (kb : Nat) (o0 : Nat) (o1 : Nat) (V : HV) : Option (HV) :=
  bnd (f_X5_number kb o0 1 1 8 V) fun p1 =>
  lt (sv p1.2 406 o0 0 p1.1) fun V2 =>
  bnd (f_X5_number kb o0 1 1 6 V2) fun p3 =>
  lt (sv p3.2 407 o0 0 p3.1) fun V4 =>
  jn (fun V7 =>
  lt (sv V7 408 o0 0 (V7 402 o0 0)) fun V8 =>
  jn (fun V11 =>
  some V11) fun k9 =>
  f_X5_readImage_L66 o0 kb k9 FU 0 V8) fun k5 =>
  f_X5_readImage_L26 o0 kb k5 FU 0 V4
def f_X5_checkCompartment (kb : Nat) (o0 : Nat) (x1 : Int32) (V : HV) : Option (HV) :=
  bnd (f_X5_byteAt kb o0 x1 V) fun p1 =>
  if p1 < (V 406 o0 0) then (some V) else (lt (f_X5_fail kb o0 3 x1 V) fun V3 =>
  some V3)
def f_X5_checkExport (kb : Nat) (o0 : Nat) (o1 : Nat) (x2 : Int32) (V : HV) : Option (HV) :=
  bnd (f_X5_checkCompartment kb o0 x2 V) fun p1 =>
  bnd (f_X5_byteAt kb o0 x2 p1) fun p2 =>
  if 8 ≤ p2 then (some p1) else (chk (inb p2 8) <|
  bnd (f_X5_byteAt kb o0 (x2 + 1) p1) fun p5 =>
  lt (f_X1_hasExport kb ((p2).toNatClampNeg) p5 p1) fun v6 =>
  if v6 = true then (some p1) else (lt (f_X5_fail kb o0 3 (x2 + 1) p1) fun V8 =>
  some V8))
def f_X5_checkTargets_L99 (o0 : Nat) (o1 : Nat) (kb : Nat) (k4 : HV → Option (HV)) : Nat → Int32 → HV → Option (HV)
  | 0, _, _ => none
  | n9 + 1, v7, V8 =>
  if (V8 407 o0 0) ≤ v7 then (k4 V8) else (bnd (f_X5_checkExport kb o0 o1 ((V8 408 o0 0) + (v7 * 5)) V8) fun p12 =>
  lt (v7 + 1) fun v13 =>
  f_X5_checkTargets_L99 o0 o1 kb k4 n9 v13 p12)
def f_X5_checkTargets_L26 (o0 : Nat) (o1 : Nat) (kb : Nat) (v14 : Int32) (k21 : HV → Option (HV)) : Nat → Int32 → HV → Option (HV)
  | 0, _, _ => none
  | n27 + 1, v25, V26 =>
  if (V26 105 ((v14).toNatClampNeg) 0) ≤ v25 then (k21 V26) else (lt ((V26 106 ((v14).toNatClampNeg) 0) + (v25 * 3)) fun v30 =>
  bnd (f_X5_byteAt kb o0 v30 V26) fun p31 =>
  jn (fun V32 =>
  lt (v25 + 1) fun v35 =>
  f_X5_checkTargets_L26 o0 o1 kb v14 k21 n27 v35 V32) fun k33 =>
  if p31 = 0 then (bnd (f_X5_checkExport kb o0 o1 (v30 + 1) V26) fun p39 =>
  k33 p39) else (if p31 = 4 then (bnd (f_X5_checkCompartment kb o0 (v30 + 1) V26) fun p38 =>
  k33 p38) else (k33 V26)))
def f_X5_checkTargets_L2 (o0 : Nat) (o1 : Nat) (kb : Nat) (k1 : HV → Option (HV)) : Nat → Int32 → HV → Option (HV)
  | 0, _, _ => none
  | n16 + 1, v14, V15 =>
  if (V15 406 o0 0) ≤ v14 then (k1 V15) else (if 8 ≤ v14 then (k1 V15) else (chk (inb v14 8) <|
  jn (fun V23 =>
  lt (v14 + 1) fun v24 =>
  f_X5_checkTargets_L2 o0 o1 kb k1 n16 v24 V23) fun k21 =>
  f_X5_checkTargets_L26 o0 o1 kb v14 k21 FU 0 V15))
def f_X5_checkTargets (kb : Nat) (o0 : Nat) (o1 : Nat) (V : HV) : Option (HV) :=
  jn (fun V3 =>
  jn (fun V6 =>
  some V6) fun k4 =>
  f_X5_checkTargets_L99 o0 o1 kb k4 FU 0 V3) fun k1 =>
  f_X5_checkTargets_L2 o0 o1 kb k1 FU 0 V
def f_X5_arrange_L37 (o0 : Nat) (kb : Nat) (k5 : Int32 → HV → Option (HV)) : Nat → Int32 → Int32 → HV → Option (HV)
  | 0, _, _, _ => none
  | n16 + 1, v13, v14, V15 =>
  if (V15 407 o0 0) ≤ v14 then (k5 v13 V15) else (if 6 ≤ v14 then (k5 v13 V15) else (chk (inb v14 6) <|
  lt (sv V15 707 ((v14).toNatClampNeg) 0 v13) fun V21 =>
  bnd (f_X5_byteAt kb o0 (((V21 408 o0 0) + (v14 * 5)) + 3) V21) fun p22 =>
  lt (v13 + (p22 * 16)) fun v23 =>
  chk (inb v14 6) <|
  lt (sv V21 708 ((v14).toNatClampNeg) 0 v23) fun V25 =>
  lt (v14 + 1) fun v26 =>
  f_X5_arrange_L37 o0 kb k5 n16 v23 v26 V25))
def f_X5_arrange_L4 (o0 : Nat) (kb : Nat) (k1 : Int32 → HV → Option (HV)) : Nat → Int32 → Int32 → HV → Option (HV)
  | 0, _, _, _ => none
  | n30 + 1, v27, v28, V29 =>
  if (V29 406 o0 0) ≤ v28 then (k1 v27 V29) else (if 8 ≤ v28 then (k1 v27 V29) else (chk (inb v28 8) <|
  lt (f_X1_arrange kb ((v28).toNatClampNeg) v27 V29) fun p35 =>
  lt p35.1 fun v36 =>
  lt (v28 + 1) fun v37 =>
  f_X5_arrange_L4 o0 kb k1 n30 v36 v37 p35.2))
def f_X5_arrange (kb : Nat) (o0 : Nat) (o1 : Nat) (V : HV) : Option (HV) :=
  jn (fun v3 V4 =>
  jn (fun v7 V8 =>
  lt (sv V8 409 o0 0 v7) fun V9 =>
  lt (f_X8_has kb 0 (V9 409 o0 0) 16 V9) fun v10 =>
  if v10 = true then (some V9) else (lt (f_X5_fail kb o0 5 (V9 403 o0 0) V9) fun V12 =>
  some V12)) fun k5 =>
  f_X5_arrange_L37 o0 kb k5 FU v3 0 V4) fun k1 =>
  f_X5_arrange_L4 o0 kb k1 FU 0 0 V
def f_J9_min_7cf53 (x0 : Int32) (x1 : Int32) : Int32 :=
  lt (if x1 < x0 then (x1) else (x0) : Int32) fun v1 =>
  v1
def f_X10_open (kb : Nat) (o0 : Nat) (x1 : Int32) (x2 : Int32) (V : HV) : HV :=
  lt (f_J9_min_7cf53 x1 8) fun v1 =>
  lt (sv V 807 o0 0 v1) fun V2 =>
  lt (f_J9_min_7cf53 x2 6) fun v3 =>
  lt (sv V2 808 o0 0 v3) fun V4 =>
  lt (sv V4 809 o0 0 (b2i true)) fun V5 =>
  V5
def f_X5_makeImport (kb : Nat) (o0 : Nat) (o1 : Nat) (x2 : Int32) (V : HV) : Option (HV) :=
  bnd (f_X5_byteAt kb o0 (x2 + 1) V) fun p1 =>
  bnd (f_X5_byteAt kb o0 (x2 + 2) V) fun p2 =>
  lt (f_X0_clear kb 582 V) fun V3 =>
  bnd (f_X5_byteAt kb o0 x2 V3) fun p4 =>
  if p4 = 0 then (lt (f_X0_set kb 582 ((16 * p1) + p2) 0 0 64 4 true V3) fun V6 =>
  some V6) else
  if p4 = 1 then (lt (f_X0_set kb 582 p1 0 0 64 6 true V3) fun V8 =>
  some V8) else
  if p4 = 2 then (lt (f_X0_set kb 582 268435456 268435456 268435472 (p1 ||| 64) 0 true V3) fun V10 =>
  some V10) else
  if p4 = 3 then (lt (8 + p1) fun v12 =>
  lt (f_X0_set kb 582 v12 v12 (v12 + p2) 96 0 true V3) fun V13 =>
  some V13) else
  bnd (f_X10_compartmentAt kb o1 p1 V3) fun p14 =>
  onn p14 (some V3) fun a15 =>
  chk (a15 < 8) <|
  lt (f_X1_globalsTo kb a15 582 (p2 ||| 64) V3) fun V17 =>
  some V17
def f_X9_begin (kb : Nat) (o0 : Nat) (x1 : Int32) (x2 : Int32) (V : HV) : Option (HV) :=
  lt (sv V 706 o0 0 x1) fun V1 =>
  lt (f_J9_min_7cf53 x2 16) fun v2 =>
  lt (sv V1 705 o0 0 v2) fun V3 =>
  bnd (f_X9_forgetAll kb o0 V3) fun p4 =>
  lt (sv p4 710 o0 0 (b2i true)) fun V5 =>
  lt (sv V5 711 o0 0 0) fun V6 =>
  lt (sv V6 712 o0 0 (-1)) fun V7 =>
  lt (sv V7 713 o0 0 (-1)) fun V8 =>
  lt (sv V8 714 o0 0 0) fun V9 =>
  lt (sv V9 715 o0 0 0) fun V10 =>
  lt (sv V10 716 o0 0 0) fun V11 =>
  lt (sv V11 717 o0 0 0) fun V12 =>
  lt (sv V12 718 o0 0 (-1)) fun V13 =>
  some V13
def f_X5_makeTask (kb : Nat) (o0 : Nat) (o1 : Nat) (o2 : Nat) (x3 : Int32) (V : HV) : Option (HV) :=
  bnd (f_X5_byteAt kb o0 x3 V) fun p1 =>
  bnd (f_X10_compartmentAt kb o1 p1 V) fun p2 =>
  onn p2 (some V) fun a3 =>
  chk (a3 < 8) <|
  bnd (f_X5_byteAt kb o0 (x3 + 2) V) fun p5 =>
  bnd (f_X5_byteAt kb o0 (x3 + 4) V) fun p6 =>
  bnd (f_X9_begin kb o2 p5 p6 V) fun p7 =>
  bnd (f_X5_byteAt kb o0 (x3 + 1) p7) fun p8 =>
  bnd (f_X9_enter kb o2 a3 p1 p8 (p7 708 o2 0) p7) fun p9 =>
  some p9
def f_X5_build_L163 (o0 : Nat) (o1 : Nat) (kb : Nat) (k6 : HV → Option (HV)) : Nat → Int32 → HV → Option (HV)
  | 0, _, _ => none
  | n11 + 1, v9, V10 =>
  if (V10 407 o0 0) ≤ v9 then (k6 V10) else (if 6 ≤ v9 then (k6 V10) else (chk (inb v9 6) <|
  bnd (f_X5_makeTask kb o0 o1 ((v9).toNatClampNeg) ((V10 408 o0 0) + (v9 * 5)) V10) fun p16 =>
  lt (v9 + 1) fun v17 =>
  f_X5_build_L163 o0 o1 kb k6 n11 v17 p16))
def f_X5_build_L98 (o0 : Nat) (o1 : Nat) (kb : Nat) (v18 : Int32) (k28 : HV → Option (HV)) : Nat → Int32 → HV → Option (HV)
  | 0, _, _ => none
  | n34 + 1, v32, V33 =>
  if (V33 105 ((v18).toNatClampNeg) 0) ≤ v32 then (k28 V33) else (bnd (f_X5_makeImport kb o0 o1 ((V33 106 ((v18).toNatClampNeg) 0) + (v32 * 3)) V33) fun p37 =>
  bnd (f_X8_writeCap kb 0 ((p37 109 ((v18).toNatClampNeg) 0) + (v32 * 16)) 582 (i2b (p37 5 582 0)) p37) fun p38 =>
  lt (v32 + 1) fun v39 =>
  f_X5_build_L98 o0 o1 kb v18 k28 n34 v39 p38)
def f_X5_build_L52 (o0 : Nat) (kb : Nat) (v18 : Int32) (k25 : HV → Option (HV)) : Nat → Int32 → HV → Option (HV)
  | 0, _, _ => none
  | n42 + 1, v40, V41 =>
  if ((V41 102 ((v18).toNatClampNeg) 0) * 4) ≤ v40 then (k25 V41) else (bnd (f_X5_byteAt kb o0 ((V41 107 ((v18).toNatClampNeg) 0) + v40) V41) fun p45 =>
  bnd (f_X8_write kb 0 ((V41 108 ((v18).toNatClampNeg) 0) + v40) 1 p45 V41) fun p46 =>
  lt (v40 + 1) fun v47 =>
  f_X5_build_L52 o0 kb v18 k25 n42 v47 p46)
def f_X5_build_L28 (o0 : Nat) (o1 : Nat) (kb : Nat) (k3 : HV → Option (HV)) : Nat → Int32 → HV → Option (HV)
  | 0, _, _ => none
  | n20 + 1, v18, V19 =>
  if (V19 406 o0 0) ≤ v18 then (k3 V19) else (if 8 ≤ v18 then (k3 V19) else (chk (inb v18 8) <|
  jn (fun V27 =>
  jn (fun V30 =>
  lt (v18 + 1) fun v31 =>
  f_X5_build_L28 o0 o1 kb k3 n20 v31 V30) fun k28 =>
  f_X5_build_L98 o0 o1 kb v18 k28 FU 0 V27) fun k25 =>
  f_X5_build_L52 o0 kb v18 k25 FU 0 V19))
def f_X5_build (kb : Nat) (o0 : Nat) (o1 : Nat) (V : HV) : Option (HV) :=
  lt (f_X10_open kb o1 (V 406 o0 0) (V 407 o0 0) V) fun V1 =>
  bnd (f_X4_reset kb 0 ((V1 409 o0 0) / 16) V1) fun p2 =>
  jn (fun V5 =>
  jn (fun V8 =>
  some V8) fun k6 =>
  f_X5_build_L163 o0 o1 kb k6 FU 0 V5) fun k3 =>
  f_X5_build_L28 o0 o1 kb k3 FU 0 p2
def f_X5_load (kb : Nat) (o0 : Nat) (o1 : Nat) (x2 : Int32) (V : HV) : Option (Int32 × HV) :=
  bnd (f_X10_reset kb o1 V) fun p1 =>
  lt (sv p1 402 o0 0 0) fun V2 =>
  lt (sv V2 403 o0 0 x2) fun V3 =>
  lt (sv V3 401 o0 0 0) fun V4 =>
  lt (sv V4 404 o0 0 0) fun V5 =>
  lt (sv V5 405 o0 0 (-1)) fun V6 =>
  bnd (f_X5_readImage kb o0 o1 V6) fun p7 =>
  jn (fun V8 =>
  jn (fun V11 =>
  jn (fun V14 =>
  jn (fun V17 =>
  some ((V17 404 o0 0), V17)) fun k18 =>
  if (V14 404 o0 0) = 0 then (bnd (f_X5_build kb o0 o1 V14) fun p21 =>
  k18 p21) else (k18 V14)) fun k15 =>
  if (V11 404 o0 0) = 0 then (bnd (f_X5_arrange kb o0 o1 V11) fun p23 =>
  k15 p23) else (k15 V11)) fun k12 =>
  if (V8 404 o0 0) = 0 then (if (V8 402 o0 0) = (V8 403 o0 0) then (k12 V8) else (lt (f_X5_fail kb o0 4 (V8 402 o0 0) V8) fun V26 =>
  k12 V26)) else (k12 V8)) fun k9 =>
  if (p7 404 o0 0) = 0 then (bnd (f_X5_checkTargets kb o0 o1 p7) fun p28 =>
  k9 p28) else (k9 p7)
def f_X8_filterGranule (kb : Nat) (o0 : Nat) (x1 : Int32) (V : HV) : Option (HV) :=
  lt (x1 * 16) fun v1 =>
  bnd (f_X8_isMarked kb o0 v1 1 V) fun p2 =>
  if p2 = true then (bnd (f_X8_load kb o0 (v1 + 12) 1 V) fun p4 =>
  if (p4 &&& 32) = 0 then (bnd (f_X8_load kb o0 (v1 + 4) 4 V) fun p6 =>
  bnd (f_X8_isMarked kb o0 p6 2 V) fun p7 =>
  if p7 = true then (bnd (f_X8_mark kb o0 v1 1 false V) fun p9 =>
  some p9) else (some V)) else (some V)) else (some V)
def f_X9_filterFramesBy_L2 (o0 : Nat) (o1 : Nat) (kb : Nat) (k1 : HV → Option (HV)) : Nat → Int32 → HV → Option (HV)
  | 0, _, _ => none
  | n6 + 1, v4, V5 =>
  if (V5 704 o0 0) ≤ v4 then (k1 V5) else (if 16 ≤ v4 then (k1 V5) else (chk (inb v4 16) <|
  bnd (f_X3_filterBy kb (16 * o0 + (v4).toNatClampNeg) o1 V5) fun p11 =>
  lt (v4 + 1) fun v12 =>
  f_X9_filterFramesBy_L2 o0 o1 kb k1 n6 v12 p11))
def f_X9_filterFramesBy (kb : Nat) (o0 : Nat) (o1 : Nat) (V : HV) : Option (HV) :=
  jn (fun V3 =>
  some V3) fun k1 =>
  f_X9_filterFramesBy_L2 o0 o1 kb k1 FU 0 V
def f_X9_isDue (kb : Nat) (o0 : Nat) (x1 : Int32) (V : HV) : Bool :=
  lt (if (V 711 o0 0) = 1 then (if x1 < (V 712 o0 0) then (false) else (true)) else (if (V 711 o0 0) = 2 then (if x1 < (V 712 o0 0) then (false) else (true)) else (false)) : Bool) fun v1 =>
  v1
def f_X9_goesBefore (kb : Nat) (o0 : Nat) (o1 : Nat) (V : HV) : Bool :=
  lt (if (V 706 o1 0) < (V 706 o0 0) then (true) else (if (V 706 o0 0) = (V 706 o1 0) then (if (V 718 o1 0) ≤ (V 718 o0 0) then (false) else (true)) else (false)) : Bool) fun v1 =>
  v1
def f_X9_part (kb : Nat) (o0 : Nat) (x1 : Int32) (V : HV) : Int32 :=
  if x1 = 0 then (lt (if (V 711 o0 0) = 4 then (1) else ((V 711 o0 0)) : Int32) fun v2 =>
  v2) else
  if x1 = 1 then ((V 709 o0 0)) else
  if x1 = 2 then ((V 704 o0 0)) else
  if x1 = 3 then (lt (if (i2b (V 710 o0 0)) = true then (true) else (false) : Bool) fun v9 =>
  (b2i v9)) else
  if x1 = 4 then ((V 716 o0 0)) else
  if x1 = 5 then ((V 717 o0 0)) else
  if x1 = 6 then ((V 712 o0 0)) else
  if x1 = 7 then ((V 707 o0 0)) else
  (-1)
def f_X10_stands_L2 (o0 : Nat) (V : HV) (k1 : Option (Bool)) : Nat → Int32 → Option (Bool)
  | 0, _ => none
  | n4 + 1, v3 =>
  if (V 808 o0 0) ≤ v3 then (k1) else (chk (inb v3 6) <|
  if (V 711 ((v3).toNatClampNeg) 0) = 3 then (lt (v3 + 1) fun v9 =>
  f_X10_stands_L2 o0 V k1 n4 v9) else (some false))
def f_X10_stands (kb : Nat) (o0 : Nat) (V : HV) : Option (Bool) :=
  jn (some true) fun k1 =>
  f_X10_stands_L2 o0 V k1 FU 0
def f_X10_mustLeave_L25 (o0 : Nat) (o1 : Nat) (V : HV) (v1 : Int32) (k3 : Option (Bool)) : Nat → Int32 → Option (Bool)
  | 0, _ => none
  | n6 + 1, v5 =>
  if (V 808 o0 0) ≤ v5 then (some false) else (jn (lt (v5 + 1) fun v11 =>
  f_X10_mustLeave_L25 o0 o1 V v1 k3 n6 v11) fun k9 =>
  if v5 = (V 700 o1 0) then (k9) else (chk (inb v5 6) <|
  if (V 711 ((v5).toNatClampNeg) 0) = 0 then (chk (inb v5 6) <|
  if (V 706 ((v5).toNatClampNeg) 0) < v1 then (k9) else (k3)) else (k9)))
def f_X10_mustLeave (kb : Nat) (o0 : Nat) (o1 : Nat) (V : HV) : Option (Bool) :=
  lt (if (V 812 o0 0) < 50 then (((V 706 o1 0) + 1)) else ((V 706 o1 0)) : Int32) fun v1 =>
  jn (some (i2b (V 710 o1 0))) fun k3 =>
  f_X10_mustLeave_L25 o0 o1 V v1 k3 FU 0
def f_X10_best_L4 (o0 : Nat) (kb : Nat) (V : HV) (k1 : Int32 → Option (Int32)) : Nat → Int32 → Int32 → Option (Int32)
  | 0, _, _ => none
  | n6 + 1, v4, v5 =>
  if (V 808 o0 0) ≤ v5 then (k1 v4) else (bnd (f_X10_taskAt kb o0 v4 V) fun p9 =>
  chk (inb v5 6) <|
  jn (fun v11 =>
  lt (v5 + 1) fun v14 =>
  f_X10_best_L4 o0 kb V k1 n6 v11 v14) fun k12 =>
  if (V 711 ((v5).toNatClampNeg) 0) = 0 then (jn (k12 v5) fun k16 =>
  onn p9 (k16) fun a18 =>
  chk (a18 < 6) <|
  chk (inb v5 6) <|
  lt (f_X9_goesBefore kb ((v5).toNatClampNeg) a18 V) fun v21 =>
  if v21 = true then (k16) else (k12 v4)) else (k12 v4))
def f_X10_best (kb : Nat) (o0 : Nat) (V : HV) : Option (Int32) :=
  jn (fun v3 =>
  some v3) fun k1 =>
  f_X10_best_L4 o0 kb V k1 FU (-1) 0
def f_X10_makeCurrent (kb : Nat) (o0 : Nat) (x1 : Int32) (V : HV) : Option (HV) :=
  lt (sv V 811 o0 0 x1) fun V1 =>
  lt (sv V1 812 o0 0 0) fun V2 =>
  bnd (f_X10_taskAt kb o0 x1 V2) fun p3 =>
  onn p3 (some V2) fun a4 =>
  chk (a4 < 6) <|
  lt (sv V2 816 o0 0 ((V2 816 o0 0) + 1)) fun V6 =>
  bnd (f_X9_filterBy kb a4 0 V6) fun p7 =>
  some p7
def f_X10_tick_L12 (o0 : Nat) (kb : Nat) (k2 : HV → Option (HV)) : Nat → Int32 → HV → Option (HV)
  | 0, _, _ => none
  | n25 + 1, v23, V24 =>
  if (V24 808 o0 0) ≤ v23 then (k2 V24) else (chk (inb v23 6) <|
  lt (f_X9_isDue kb ((v23).toNatClampNeg) (V24 810 o0 0) V24) fun v29 =>
  jn (fun V30 =>
  lt (v23 + 1) fun v33 =>
  f_X10_tick_L12 o0 kb k2 n25 v33 V30) fun k31 =>
  if v29 = true then (chk (inb v23 6) <|
  lt (f_X9_becomeReady kb ((v23).toNatClampNeg) V24) fun V36 =>
  k31 V36) else (k31 V24))
def f_X10_tick (kb : Nat) (o0 : Nat) (V : HV) : Option (HV) :=
  lt (sv V 810 o0 0 ((V 810 o0 0) + 1)) fun V1 =>
  jn (fun V4 =>
  bnd (f_X10_taskAt kb o0 (V4 811 o0 0) V4) fun p5 =>
  jn (fun V6 =>
  bnd (f_X10_taskAt kb o0 (V6 811 o0 0) V6) fun p9 =>
  onn p9 (some V6) fun a10 =>
  chk (a10 < 6) <|
  lt (sv V6 718 a10 0 (V6 810 o0 0)) fun V12 =>
  lt (sv V12 812 o0 0 ((V12 812 o0 0) + 1)) fun V13 =>
  some V13) fun k7 =>
  jn (bnd (f_X10_best kb o0 V4) fun p16 =>
  bnd (f_X10_makeCurrent kb o0 p16 V4) fun p17 =>
  k7 p17) fun k14 =>
  onn p5 (k14) fun a18 =>
  chk (a18 < 6) <|
  if (V4 711 a18 0) = 0 then (bnd (f_X10_mustLeave kb o0 a18 V4) fun p21 =>
  if p21 = true then (k14) else (k7 V4)) else (k14)) fun k2 =>
  f_X10_tick_L12 o0 kb k2 FU 0 V1
def f_X10_endSweep_L55 (o0 : Nat) (kb : Nat) (k5 : HV → Option (HV)) : Nat → Int32 → HV → Option (HV)
  | 0, _, _ => none
  | n10 + 1, v8, V9 =>
  if (V9 808 o0 0) ≤ v8 then (k5 V9) else (chk (inb v8 6) <|
  jn (fun V14 =>
  lt (v8 + 1) fun v17 =>
  f_X10_endSweep_L55 o0 kb k5 n10 v17 V14) fun k15 =>
  if (V9 711 ((v8).toNatClampNeg) 0) = 4 then (chk (inb v8 6) <|
  chk (inb v8 6) <|
  bnd (f_X10_grant kb o0 (V9 715 ((v8).toNatClampNeg) 0) (f_X9_reg ((v8).toNatClampNeg) 10) V9) fun p21 =>
  chk (inb v8 6) <|
  lt (f_X9_becomeReady kb ((v8).toNatClampNeg) p21.2) fun V23 =>
  k15 V23) else (k15 V9))
def f_X10_endSweep_L2 (o0 : Nat) (kb : Nat) (k1 : HV → Option (HV)) : Nat → Int32 → HV → Option (HV)
  | 0, _, _ => none
  | n26 + 1, v24, V25 =>
  if (V25 808 o0 0) ≤ v24 then (k1 V25) else (chk (inb v24 6) <|
  bnd (f_X9_filterBy kb ((v24).toNatClampNeg) 0 V25) fun p30 =>
  chk (inb v24 6) <|
  bnd (f_X9_filterFramesBy kb ((v24).toNatClampNeg) 0 p30) fun p32 =>
  lt (v24 + 1) fun v33 =>
  f_X10_endSweep_L2 o0 kb k1 n26 v33 p32)
def f_X10_endSweep (kb : Nat) (o0 : Nat) (V : HV) : Option (HV) :=
  jn (fun V3 =>
  bnd (f_X4_endSweep kb 0 0 V3) fun p4 =>
  jn (fun V7 =>
  some V7) fun k5 =>
  f_X10_endSweep_L55 o0 kb k5 FU 0 p4) fun k1 =>
  f_X10_endSweep_L2 o0 kb k1 FU 0 V
def f_X10_sweep_L20 (kb : Nat) (k2 : HV → Option (HV)) : Nat → Int32 → HV → Option (HV)
  | 0, _, _ => none
  | n10 + 1, v8, V9 =>
  if 4 ≤ v8 then (k2 V9) else (bnd (f_X8_filterGranule kb 0 ((V9 307 0 0) + v8) V9) fun p13 =>
  lt (v8 + 1) fun v14 =>
  f_X10_sweep_L20 kb k2 n10 v14 p13)
def f_X10_sweep (kb : Nat) (o0 : Nat) (V : HV) : Option (HV) :=
  if 0 ≤ (V 307 0 0) then (jn (fun V4 =>
  lt (sv V4 307 0 0 ((V4 307 0 0) + 4)) fun V5 =>
  if (V5 307 0 0) < (Int32.ofNat (64 * kb)) then (some V5) else (bnd (f_X10_endSweep kb o0 V5) fun p7 =>
  some p7)) fun k2 =>
  f_X10_sweep_L20 kb k2 FU 0 V) else (bnd (f_X4_beginSweepIfDue kb 0 V) fun p15 =>
  some p15)
def f_X10_part (kb : Nat) (o0 : Nat) (x1 : Int32) (V : HV) : Int32 :=
  if x1 = 0 then ((V 810 o0 0)) else
  if x1 = 1 then ((V 811 o0 0)) else
  if x1 = 2 then ((V 813 o0 0)) else
  if x1 = 3 then ((V 814 o0 0)) else
  if x1 = 4 then ((V 815 o0 0)) else
  if x1 = 5 then ((V 816 o0 0)) else
  if x1 = 7 then ((V 502 1 0)) else
  if x1 = 8 then ((V 502 0 0)) else
  if x1 = 9 then (lt (if (i2b (V 809 o0 0)) = true then (true) else (false) : Bool) fun v10 =>
  (b2i v10)) else
  (-1)
def f_X11_feed (kb : Nat) (o0 : Nat) (x1 : Int32) (x2 : Int32) (x3 : Int32) (x4 : Int32) (x5 : Int32) (V : HV) : Option (Bool × HV) :=
  lt (f_X5_hasRoom kb 0 20 V) fun v1 =>
  if v1 = true then (bnd (f_X5_append kb 0 x1 V) fun p3 =>
  bnd (f_X5_append kb 0 x2 p3) fun p4 =>
  bnd (f_X5_append kb 0 x3 p4) fun p5 =>
  bnd (f_X5_append kb 0 x4 p5) fun p6 =>
  bnd (f_X5_append kb 0 x5 p6) fun p7 =>
  some (true, p7)) else (some (false, V))
def f_X11_boot (kb : Nat) (o0 : Nat) (x1 : Int32) (V : HV) : Option (Int32 × HV) :=
  if x1 < 0 then (some ((-1), V)) else (if x1 ≤ (V 401 0 0) then (bnd (f_X5_load kb 0 0 x1 V) fun p3 =>
  some (p3.1, p3.2)) else (some ((-1), V)))
def f_X11_place (kb : Nat) (o0 : Nat) (V : HV) : Int32 :=
  (V 405 0 0)
def f_X11_run_L15 (x1 : Int32) (kb : Nat) (k3 : Int32 → HV → Option (Int32 × HV)) : Nat → Int32 → HV → Option (Int32 × HV)
  | 0, _, _ => none
  | n9 + 1, v7, V8 =>
  if x1 ≤ v7 then (k3 v7 V8) else (bnd (f_X10_stands kb 0 V8) fun p12 =>
  if p12 = true then (k3 v7 V8) else (bnd (f_X10_tick kb 0 V8) fun p14 =>
  bnd (f_X2_instruction kb 0 p14) fun p15 =>
  bnd (f_X10_sweep kb 0 p15) fun p16 =>
  lt (v7 + 1) fun v17 =>
  f_X11_run_L15 x1 kb k3 n9 v17 p16))
def f_X11_run (kb : Nat) (o0 : Nat) (x1 : Int32) (V : HV) : Option (Int32 × HV) :=
  if x1 < 0 then (some ((-1), V)) else (if x1 ≤ 5000 then (jn (fun v5 V6 =>
  some (v5, V6)) fun k3 =>
  f_X11_run_L15 x1 kb k3 FU 0 V) else (some ((-1), V)))
def f_X11_input (kb : Nat) (o0 : Nat) (x1 : Int32) (V : HV) : Option (Bool × HV) :=
  if x1 < 0 then (some (false, V)) else (if 255 < x1 then (some (false, V)) else (if (i2b (V 809 0 0)) = true then (if (V 502 0 0) < 64 then (bnd (f_X6_push kb 0 x1 V) fun p5 =>
  some (true, p5)) else (some (false, V))) else (some (false, V))))
def f_X11_fetch_L25 (kb : Nat) (v1 : Int32) (k3 : Int64 → HV → Option (Int64 × HV)) : Nat → Int64 → Int32 → HV → Option (Int64 × HV)
  | 0, _, _, _ => none
  | n10 + 1, v7, v8, V9 =>
  if v1 ≤ v8 then (k3 v7 V9) else (bnd (f_X6_pull kb 1 V9) fun p13 =>
  lt (v7 ||| (p13.1.toInt64 <<< (Int32.toInt64 (48 - (8 * v8)) &&& 63))) fun v14 =>
  lt (v8 + 1) fun v15 =>
  f_X11_fetch_L25 kb v1 k3 n10 v14 v15 p13.2)
def f_X11_fetch (kb : Nat) (o0 : Nat) (V : HV) : Option (Int64 × HV) :=
  lt (f_J9_min_7cf53 7 (V 502 1 0)) fun v1 =>
  lt (v1.toInt64 <<< (Int32.toInt64 (56 : Int32) &&& 63)) fun v2 =>
  jn (fun v5 V6 =>
  some (v5, V6)) fun k3 =>
  f_X11_fetch_L25 kb v1 k3 FU v2 0 V
def f_X11_register (kb : Nat) (o0 : Nat) (x1 : Int32) (x2 : Int32) (x3 : Int32) (V : HV) : Option (Int64) :=
  bnd (f_X10_taskAt kb 0 x1 V) fun p1 =>
  onn p1 (some ((-1) : Int64)) fun a2 =>
  chk (a2 < 6) <|
  if x2 < 0 then (some ((-1) : Int64)) else (if x2 ≤ 16 then (jn (fun a6 =>
  chk (a6 < 583) <|
  lt (f_X0_part kb a6 x3 V) fun v10 =>
  some v10) fun k7 =>
  if x2 = 16 then (k7 (17 * a2 + 16)) else (k7 (f_X9_reg a2 x2))) else (some ((-1) : Int64)))
def f_X11_memory (kb : Nat) (o0 : Nat) (x1 : Int32) (x2 : Int32) (V : HV) : Option (Int64) :=
  jn (if (i2b (V 809 0 0)) = true then (lt (f_X8_has kb 0 x1 x2 V) fun v4 =>
  if v4 = true then (bnd (f_X8_load kb 0 x1 x2 V) fun p6 =>
  lt (f_X11_unsigned p6) fun v7 =>
  some v7) else (some ((-1) : Int64))) else (some ((-1) : Int64))) fun k1 =>
  if x2 = 1 then (k1) else (if x2 = 2 then (k1) else (if x2 = 4 then (k1) else (some ((-1) : Int64))))
def f_X11_tag (kb : Nat) (o0 : Nat) (x1 : Int32) (V : HV) : Option (Int32) :=
  if (i2b (V 809 0 0)) = true then (if x1 < 0 then (some (-1)) else (if x1 < (Int32.ofNat (64 * kb)) then (chk (inb x1 (64 * kb)) <|
  some (V 2400 0 (x1).toNatClampNeg)) else (some (-1)))) else (some (-1))
def f_X11_thread (kb : Nat) (o0 : Nat) (x1 : Int32) (x2 : Int32) (V : HV) : Option (Int32) :=
  bnd (f_X10_taskAt kb 0 x1 V) fun p1 =>
  onn p1 (some (-1)) fun a2 =>
  chk (a2 < 6) <|
  lt (f_X9_part kb a2 x2 V) fun v4 =>
  some v4
def f_X11_compartment (kb : Nat) (o0 : Nat) (x1 : Int32) (x2 : Int32) (V : HV) : Option (Int32) :=
  bnd (f_X10_compartmentAt kb 0 x1 V) fun p1 =>
  onn p1 (some (-1)) fun a2 =>
  chk (a2 < 8) <|
  lt (f_X1_part kb a2 x2 V) fun v4 =>
  some v4
def f_X11_heap (kb : Nat) (o0 : Nat) (x1 : Int32) (V : HV) : Option (Int32) :=
  if (i2b (V 809 0 0)) = true then (bnd (f_X4_part kb 0 x1 V) fun p2 =>
  some p2) else (some (-1))
def f_X11_count (kb : Nat) (o0 : Nat) (x1 : Int32) (V : HV) : Int32 :=
  lt (if x1 = 6 then ((V 401 0 0)) else ((f_X10_part kb 0 x1 V)) : Int32) fun v1 =>
  v1
def f_X11_broken (o0 : Nat) (x1 : Int32) : Int32 :=
  0
end
