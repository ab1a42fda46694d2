noncomputable section
def f_X12_make (o0 : Nat) (x1 : Int32) (x2 : Int32) (x3 : Int32) (x4 : Int32) (x5 : Int32) (x6 : Int32) (x7 : Bool) (V : HV) : Option (HV) :=
  chk (inb x1 600) <|
  lt (sv V 2400 0 (x1).toNatClampNeg x2) fun V2 =>
  chk (inb x1 600) <|
  lt (sv V2 2500 0 (x1).toNatClampNeg x3) fun V4 =>
  chk (inb x1 600) <|
  lt (sv V4 2600 0 (x1).toNatClampNeg x4) fun V6 =>
  chk (inb x1 600) <|
  lt (sv V6 2700 0 (x1).toNatClampNeg x5) fun V8 =>
  chk (inb x1 600) <|
  lt (sv V8 2800 0 (x1).toNatClampNeg x6) fun V10 =>
  chk (inb x1 600) <|
  lt (sv V10 2900 0 (x1).toNatClampNeg (b2i x7)) fun V12 =>
  some V12
def f_X12_nothing (o0 : Nat) (x1 : Int32) (V : HV) : Option (HV) :=
  bnd (f_X12_make o0 x1 0 0 0 0 0 false V) fun p1 =>
  some p1
def f_X12_begins_L142 (o0 : Nat) (k25 : HV → Option (HV)) : Nat → Int32 → HV → Option (HV)
  | 0, _, _ => none
  | n30 + 1, v28, V29 =>
  if 600 ≤ v28 then (k25 V29) else (bnd (f_X12_nothing o0 v28 V29) fun p33 =>
  lt (v28 + 1) fun v34 =>
  f_X12_begins_L142 o0 k25 n30 v34 p33)
def f_X12_begins_L113 (k22 : HV → Option (HV)) : Nat → Int32 → HV → Option (HV)
  | 0, _, _ => none
  | n37 + 1, v35, V36 =>
  if 2048 ≤ v35 then (k22 V36) else (chk (inb v35 2048) <|
  lt (sv V36 2200 0 (v35).toNatClampNeg (b2i false)) fun V41 =>
  chk (inb v35 2048) <|
  lt (sv V41 2300 0 (v35).toNatClampNeg (b2i false)) fun V43 =>
  lt (v35 + 1) fun v44 =>
  f_X12_begins_L113  k22 n37 v44 V43)
def f_X12_begins_L92 (k19 : HV → Option (HV)) : Nat → Int32 → HV → Option (HV)
  | 0, _, _ => none
  | n47 + 1, v45, V46 =>
  if 32768 ≤ v45 then (k19 V46) else (chk (inb v45 32768) <|
  lt (sv V46 2100 0 (v45).toNatClampNeg (((0 : Int32)).toInt8.toInt32)) fun V51 =>
  lt (v45 + 1) fun v52 =>
  f_X12_begins_L92  k19 n47 v52 V51)
def f_X12_begins (o0 : Nat) (V : HV) : Option (HV) :=
  lt (sv V 1017 o0 0 (b2i false)) fun V1 =>
  lt (sv V1 1018 o0 0 0) fun V2 =>
  lt (sv V2 1019 o0 0 0) fun V3 =>
  lt (sv V3 1047 o0 0 0) fun V4 =>
  lt (sv V4 1048 o0 0 (-1)) fun V5 =>
  lt (sv V5 1049 o0 0 0) fun V6 =>
  lt (sv V6 1050 o0 0 0) fun V7 =>
  lt (sv V7 1051 o0 0 0) fun V8 =>
  lt (sv V8 1052 o0 0 0) fun V9 =>
  lt (sv V9 1053 o0 0 0) fun V10 =>
  lt (sv V10 1054 o0 0 0) fun V11 =>
  lt (sv V11 1055 o0 0 0) fun V12 =>
  lt (sv V12 1060 o0 0 (b2i false)) fun V13 =>
  lt (sv V13 1061 o0 0 (-1)) fun V14 =>
  lt (sv V14 1062 o0 0 0) fun V15 =>
  lt (sv V15 1064 o0 0 0) fun V16 =>
  lt (sv V16 1066 o0 0 0) fun V17 =>
  lt (sv V17 1067 o0 0 0) fun V18 =>
  jn (fun V21 =>
  jn (fun V24 =>
  jn (fun V27 =>
  some V27) fun k25 =>
  f_X12_begins_L142 o0 k25 FU 0 V24) fun k22 =>
  f_X12_begins_L113  k22 FU 0 V21) fun k19 =>
  f_X12_begins_L92  k19 FU 0 V18
def f_X12_number (o0 : Nat) (x1 : Int32) (x2 : Int32) (V : HV) : Option (HV) :=
  bnd (f_X12_make o0 x1 x2 0 0 0 0 false V) fun p1 =>
  some p1
def f_X12_copy (o0 : Nat) (x1 : Int32) (x2 : Int32) (V : HV) : Option (HV) :=
  chk (inb x1 600) <|
  chk (inb x1 600) <|
  chk (inb x1 600) <|
  chk (inb x1 600) <|
  chk (inb x1 600) <|
  chk (inb x1 600) <|
  bnd (f_X12_make o0 x2 (V 2400 0 (x1).toNatClampNeg) (V 2500 0 (x1).toNatClampNeg) (V 2600 0 (x1).toNatClampNeg) (V 2700 0 (x1).toNatClampNeg) (V 2800 0 (x1).toNatClampNeg) (i2b (V 2900 0 (x1).toNatClampNeg)) V) fun p7 =>
  some p7
def f_X12_plain (x0 : Int32) : Int64 :=
  (x0.toInt64 &&& (4294967295 : Int64))
def f_X12_isGone (o0 : Nat) (x1 : Int32) (V : HV) : Option (Bool) :=
  chk (inb x1 600) <|
  if ((V 2700 0 (x1).toNatClampNeg) &&& 32) = 0 then (chk (inb x1 600) <|
  if (V 2500 0 (x1).toNatClampNeg) < 0 then (some false) else (chk (inb x1 600) <|
  if (V 1000 o0 0) ≤ (V 2500 0 (x1).toNatClampNeg) then (some false) else (chk (inb x1 600) <|
  chk (inb ((V 2500 0 (x1).toNatClampNeg) / 16) 2048) <|
  if (i2b (V 2300 0 ((V 2500 0 (x1).toNatClampNeg) / 16).toNatClampNeg)) = true then (some true) else (some false)))) else (some false)
def f_X12_filter (o0 : Nat) (x1 : Int32) (V : HV) : Option (HV) :=
  chk (inb x1 600) <|
  jn (fun v2 =>
  chk (inb x1 600) <|
  lt (sv V 2900 0 (x1).toNatClampNeg (b2i v2)) fun V6 =>
  some V6) fun k3 =>
  jn (k3 false) fun k7 =>
  if (i2b (V 2900 0 (x1).toNatClampNeg)) = true then (bnd (f_X12_isGone o0 x1 V) fun p10 =>
  if p10 = true then (k7) else (k3 true)) else (k7)
def f_X12_reg (x0 : Int32) (x1 : Int32) : Int32 :=
  ((17 * x0) + x1)
def f_X12_frame (x0 : Int32) (x1 : Int32) (x2 : Int32) : Int32 :=
  (((102 + (80 * x0)) + (5 * x1)) + x2)
def f_X12_refuses (o0 : Nat) (x1 : Int32) (x2 : Int32) (x3 : Int32) (x4 : Int32) (V : HV) : Option (Int32) :=
  chk (inb x1 600) <|
  if (i2b (V 2900 0 (x1).toNatClampNeg)) = true then (chk (inb x1 600) <|
  if (V 2800 0 (x1).toNatClampNeg) = 0 then (chk (inb x1 600) <|
  if ((V 2700 0 (x1).toNatClampNeg) &&& x2) = x2 then (lt (f_X12_plain x3) fun v7 =>
  chk (inb x1 600) <|
  lt (f_X12_plain (V 2500 0 (x1).toNatClampNeg)) fun v9 =>
  if (lg_cmp v7 v9) < 0 then (some 4) else (lt (f_X12_plain x3) fun v11 =>
  chk (inb x1 600) <|
  lt (f_X12_plain (V 2600 0 (x1).toNatClampNeg)) fun v13 =>
  if (lg_cmp (v11 + x4.toInt64) v13) ≤ 0 then (chk (¬ x4 = 0) <|
  lt (if (x3 - x3 / x4 * x4) = 0 then (0) else (5) : Int32) fun v16 =>
  some v16) else (some 4))) else (some 3)) else (some 2)) else (some 1)
def f_X12_get_L7 (x1 : Int32) (V : HV) (k2 : Int32 → Option (Int32)) : Nat → Int32 → Int32 → Option (Int32)
  | 0, _, _ => none
  | n7 + 1, v5, v6 =>
  if v6 < 0 then (k2 v5) else (chk (inb (x1 + v6) 32768) <|
  lt ((v5 <<< ((8 : Int32) &&& 31)) ||| ((V 2100 0 (x1 + v6).toNatClampNeg) &&& 255)) fun v11 =>
  lt (v6 + (-1)) fun v12 =>
  f_X12_get_L7 x1 V k2 n7 v11 v12)
def f_X12_get (o0 : Nat) (x1 : Int32) (x2 : Int32) (V : HV) : Option (Int32) :=
  lt (x2 - 1) fun v1 =>
  jn (fun v4 =>
  some v4) fun k2 =>
  f_X12_get_L7 x1 V k2 FU 0 v1
def f_X12_put_L3 (x1 : Int32) (x2 : Int32) (x3 : Int32) (k1 : HV → Option (HV)) : Nat → Int32 → HV → Option (HV)
  | 0, _, _ => none
  | n6 + 1, v4, V5 =>
  if x2 ≤ v4 then (k1 V5) else (chk (inb (x1 + v4) 32768) <|
  lt (sv V5 2100 0 (x1 + v4).toNatClampNeg ((((x3 >>> ((8 * v4) &&& 31)).toInt8.toInt32)).toInt8.toInt32)) fun V10 =>
  lt (v4 + 1) fun v11 =>
  f_X12_put_L3 x1 x2 x3 k1 n6 v11 V10)
def f_X12_put (o0 : Nat) (x1 : Int32) (x2 : Int32) (x3 : Int32) (V : HV) : Option (HV) :=
  jn (fun V3 =>
  some V3) fun k1 =>
  f_X12_put_L3 x1 x2 x3 k1 FU 0 V
def f_X12_getCapability (o0 : Nat) (x1 : Int32) (x2 : Int32) (V : HV) : Option (HV) :=
  bnd (f_X12_get o0 (x1 + 12) 4 V) fun p1 =>
  bnd (f_X12_get o0 x1 4 V) fun p2 =>
  bnd (f_X12_get o0 (x1 + 4) 4 V) fun p3 =>
  bnd (f_X12_get o0 (x1 + 8) 4 V) fun p4 =>
  chk (inb (x1 / 16) 2048) <|
  bnd (f_X12_make o0 x2 p2 p3 p4 (p1 &&& 255) ((p1 >>> ((8 : Int32) &&& 31)) &&& 255) (i2b (V 2200 0 (x1 / 16).toNatClampNeg)) V) fun p6 =>
  some p6
def f_X12_putCapability (o0 : Nat) (x1 : Int32) (x2 : Int32) (x3 : Bool) (V : HV) : Option (HV) :=
  chk (inb x2 600) <|
  bnd (f_X12_put o0 x1 4 (V 2400 0 (x2).toNatClampNeg) V) fun p2 =>
  chk (inb x2 600) <|
  bnd (f_X12_put o0 (x1 + 4) 4 (p2 2500 0 (x2).toNatClampNeg) p2) fun p4 =>
  chk (inb x2 600) <|
  bnd (f_X12_put o0 (x1 + 8) 4 (p4 2600 0 (x2).toNatClampNeg) p4) fun p6 =>
  chk (inb x2 600) <|
  chk (inb x2 600) <|
  bnd (f_X12_put o0 (x1 + 12) 4 ((p6 2700 0 (x2).toNatClampNeg) ||| ((p6 2800 0 (x2).toNatClampNeg) <<< ((8 : Int32) &&& 31))) p6) fun p9 =>
  chk (inb (x1 / 16) 2048) <|
  lt (sv p9 2200 0 (x1 / 16).toNatClampNeg (b2i x3)) fun V11 =>
  some V11
def f_X12_wipe_L2 (x2 : Int32) (k1 : HV → Option (HV)) : Nat → Int32 → HV → Option (HV)
  | 0, _, _ => none
  | n6 + 1, v4, V5 =>
  if x2 ≤ v4 then (k1 V5) else (chk (inb v4 32768) <|
  lt (sv V5 2100 0 (v4).toNatClampNeg (((0 : Int32)).toInt8.toInt32)) fun V10 =>
  chk (inb (v4 / 16) 2048) <|
  lt (sv V10 2200 0 (v4 / 16).toNatClampNeg (b2i false)) fun V12 =>
  lt (v4 + 1) fun v13 =>
  f_X12_wipe_L2 x2 k1 n6 v13 V12)
def f_X12_wipe (o0 : Nat) (x1 : Int32) (x2 : Int32) (V : HV) : Option (HV) :=
  jn (fun V3 =>
  some V3) fun k1 =>
  f_X12_wipe_L2 x2 k1 FU x1 V
def f_X12_code (o0 : Nat) (x1 : Int32) (x2 : Int32) (x3 : Int32) (V : HV) : Option (HV) :=
  chk (inb x1 8) <|
  chk (inb x1 8) <|
  chk (inb x1 8) <|
  bnd (f_X12_make o0 x3 ((V 4000 0 (x1).toNatClampNeg) + (4 * x2)) (V 4000 0 (x1).toNatClampNeg) (V 4200 0 (x1).toNatClampNeg) 77 0 true V) fun p4 =>
  some p4
def f_X12_globals (o0 : Nat) (x1 : Int32) (x2 : Int32) (V : HV) : Option (HV) :=
  chk (inb x1 8) <|
  chk (inb x1 8) <|
  chk (inb x1 8) <|
  bnd (f_X12_make o0 x2 (V 4200 0 (x1).toNatClampNeg) (V 4200 0 (x1).toNatClampNeg) (V 4300 0 (x1).toNatClampNeg) 91 0 true V) fun p4 =>
  some p4
def f_X12_stack (o0 : Nat) (x1 : Int32) (x2 : Int32) (x3 : Int32) (V : HV) : Option (HV) :=
  chk (inb x1 6) <|
  bnd (f_X12_make o0 x3 x2 (V 5600 0 (x1).toNatClampNeg) x2 155 0 true V) fun p2 =>
  some p2
def f_X12_word_L3 (o0 : Nat) (x1 : Int32) (k1 : HV → Option (HV)) : Nat → Int32 → HV → Option (HV)
  | 0, _, _ => none
  | n6 + 1, v4, V5 =>
  if v4 < 0 then (k1 V5) else (chk (inb (V5 1011 o0 0) 5000) <|
  lt (sv V5 3000 0 (V5 1011 o0 0).toNatClampNeg ((((x1 >>> (v4 &&& 31)).toInt8.toInt32)).toInt8.toInt32)) fun V10 =>
  lt (sv V10 1011 o0 0 ((V10 1011 o0 0) + 1)) fun V11 =>
  lt (v4 + (-8)) fun v12 =>
  f_X12_word_L3 o0 x1 k1 n6 v12 V11)
def f_X12_word (o0 : Nat) (x1 : Int32) (V : HV) : Option (HV) :=
  jn (fun V3 =>
  some V3) fun k1 =>
  f_X12_word_L3 o0 x1 k1 FU 24 V
def f_X12_feed (o0 : Nat) (x1 : Int32) (x2 : Int32) (x3 : Int32) (x4 : Int32) (x5 : Int32) (V : HV) : Option (Bool × HV) :=
  if ((V 1011 o0 0) + 20) ≤ 5000 then (bnd (f_X12_word o0 x1 V) fun p2 =>
  bnd (f_X12_word o0 x2 p2) fun p3 =>
  bnd (f_X12_word o0 x3 p3) fun p4 =>
  bnd (f_X12_word o0 x4 p4) fun p5 =>
  bnd (f_X12_word o0 x5 p5) fun p6 =>
  some (true, p6)) else (some (false, V))
def f_X12_fails (o0 : Nat) (x1 : Int32) (x2 : Int32) (V : HV) : HV :=
  if (V 1015 o0 0) = 0 then (lt (sv V 1015 o0 0 x1) fun V2 =>
  lt (sv V2 1016 o0 0 x2) fun V3 =>
  V3) else (V)
def f_X12_next (o0 : Nat) (x1 : Int32) (x2 : Int32) (x3 : Int32) (V : HV) : Option (Int32 × HV) :=
  if (V 1015 o0 0) = 0 then (lt (V 1014 o0 0) fun v2 =>
  if ((V 1014 o0 0) + x1) ≤ (V 1013 o0 0) then (chk (inb (V 1014 o0 0) 5000) <|
  lt ((V 3200 0 (V 1014 o0 0).toNatClampNeg) &&& 255) fun v5 =>
  jn (fun v6 =>
  lt (sv V 1014 o0 0 ((V 1014 o0 0) + x1)) fun V9 =>
  jn (fun V10 =>
  lt (if v6 < x2 then (x2) else (if v6 ≤ x3 then (v6) else (x2)) : Int32) fun v13 =>
  some (v13, V10)) fun k11 =>
  jn (lt (f_X12_fails o0 2 v2 V9) fun V20 =>
  k11 V20) fun k18 =>
  if v6 < x2 then (k18) else (if v6 ≤ x3 then (k11 V9) else (k18))) fun k7 =>
  if x1 = 2 then (chk (inb ((V 1014 o0 0) + 1) 5000) <|
  lt (v5 ||| (((V 3200 0 ((V 1014 o0 0) + 1).toNatClampNeg) &&& 255) <<< ((8 : Int32) &&& 31))) fun v25 =>
  k7 v25) else (k7 v5)) else (lt (f_X12_fails o0 1 (V 1013 o0 0) V) fun V26 =>
  some (x2, V26))) else (some (x2, V))
def f_X12_readCompartment_L120 (o0 : Nat) (x1 : Int32) (k16 : HV → Option (HV)) : Nat → Int32 → HV → Option (HV)
  | 0, _, _ => none
  | n32 + 1, v30, V31 =>
  chk (inb x1 8) <|
  if (V31 9000 0 (x1).toNatClampNeg) ≤ v30 then (k16 V31) else (lt ((16 * x1) + v30) fun v36 =>
  chk (inb v36 128) <|
  lt (sv V31 9400 0 (v36).toNatClampNeg (V31 1014 o0 0)) fun V38 =>
  bnd (f_X12_next o0 1 0 4 V38) fun p39 =>
  lt p39.1 fun v40 =>
  chk (inb v36 128) <|
  lt (sv p39.2 9100 0 (v36).toNatClampNeg v40) fun V42 =>
  lt (if v40 = 2 then (true) else (false) : Bool) fun v43 =>
  lt (if v40 = 1 then (8) else (if v40 = 2 then (3) else (if v40 = 3 then (239) else (255))) : Int32) fun v45 =>
  bnd (f_X12_next o0 1 (b2i v43) v45 V42) fun p47 =>
  chk (inb v36 128) <|
  lt (sv p47.2 9200 0 (v36).toNatClampNeg p47.1) fun V49 =>
  lt (V49 1014 o0 0) fun v50 =>
  lt (if v40 = 3 then (true) else (false) : Bool) fun v51 =>
  lt (if v40 = 1 then (0) else (if v40 = 2 then (0) else (if v40 = 3 then (16) else (255))) : Int32) fun v53 =>
  bnd (f_X12_next o0 1 (b2i v51) v53 V49) fun p55 =>
  chk (inb v36 128) <|
  lt (sv p55.2 9300 0 (v36).toNatClampNeg p55.1) fun V57 =>
  jn (fun V58 =>
  lt (v30 + 1) fun v61 =>
  f_X12_readCompartment_L120 o0 x1 k16 n32 v61 V58) fun k59 =>
  if v40 = 4 then (chk (inb v36 128) <|
  jn (lt (f_X12_fails o0 2 v50 V57) fun V66 =>
  k59 V66) fun k64 =>
  if (V57 9300 0 (v36).toNatClampNeg) = 0 then (k64) else (chk (inb v36 128) <|
  if ((V57 9300 0 (v36).toNatClampNeg) &&& (-28)) = 0 then (k59 V57) else (k64))) else (k59 V57))
def f_X12_readCompartment_L59 (o0 : Nat) (x1 : Int32) (k13 : HV → Option (HV)) : Nat → Int32 → HV → Option (HV)
  | 0, _, _ => none
  | n84 + 1, v82, V83 =>
  chk (inb x1 8) <|
  if (V83 4400 0 (x1).toNatClampNeg) ≤ v82 then (k13 V83) else (chk (inb x1 8) <|
  bnd (f_X12_next o0 2 0 ((V83 8800 0 (x1).toNatClampNeg) - 1) V83) fun p89 =>
  chk (inb ((8 * x1) + v82) 64) <|
  lt (sv p89.2 4500 0 ((8 * x1) + v82).toNatClampNeg p89.1) fun V91 =>
  bnd (f_X12_next o0 1 1 3 V91) fun p92 =>
  chk (inb ((8 * x1) + v82) 64) <|
  lt (sv p92.2 4600 0 ((8 * x1) + v82).toNatClampNeg p92.1) fun V94 =>
  lt (v82 + 1) fun v95 =>
  f_X12_readCompartment_L59 o0 x1 k13 n84 v95 V94)
def f_X12_readCompartment (o0 : Nat) (x1 : Int32) (V : HV) : Option (HV) :=
  bnd (f_X12_next o0 2 1 200 V) fun p1 =>
  chk (inb x1 8) <|
  lt (sv p1.2 8800 0 (x1).toNatClampNeg p1.1) fun V3 =>
  bnd (f_X12_next o0 1 0 32 V3) fun p4 =>
  chk (inb x1 8) <|
  lt (sv p4.2 8900 0 (x1).toNatClampNeg p4.1) fun V6 =>
  bnd (f_X12_next o0 1 0 8 V6) fun p7 =>
  chk (inb x1 8) <|
  lt (sv p7.2 4400 0 (x1).toNatClampNeg p7.1) fun V9 =>
  bnd (f_X12_next o0 1 0 16 V9) fun p10 =>
  chk (inb x1 8) <|
  lt (sv p10.2 9000 0 (x1).toNatClampNeg p10.1) fun V12 =>
  jn (fun V15 =>
  jn (fun V18 =>
  chk (inb x1 8) <|
  lt (sv V18 9500 0 (x1).toNatClampNeg (V18 1014 o0 0)) fun V20 =>
  jn (fun V21 =>
  chk (inb x1 8) <|
  lt (sv V21 1014 o0 0 ((V21 1014 o0 0) + (4 * (V21 8800 0 (x1).toNatClampNeg)))) fun V25 =>
  some V25) fun k22 =>
  if (V20 1015 o0 0) = 0 then (chk (inb x1 8) <|
  if ((V20 1014 o0 0) + (4 * (V20 8800 0 (x1).toNatClampNeg))) ≤ (V20 1013 o0 0) then (k22 V20) else (lt (f_X12_fails o0 1 (V20 1013 o0 0) V20) fun V29 =>
  k22 V29)) else (k22 V20)) fun k16 =>
  f_X12_readCompartment_L120 o0 x1 k16 FU 0 V15) fun k13 =>
  f_X12_readCompartment_L59 o0 x1 k13 FU 0 V12
def f_X12_layout_L92 (o0 : Nat) (k5 : Int32 → HV → Option (HV)) : Nat → Int32 → Int32 → HV → Option (HV)
  | 0, _, _, _ => none
  | n13 + 1, v10, v11, V12 =>
  if (V12 1019 o0 0) ≤ v11 then (k5 v10 V12) else (chk (inb v11 6) <|
  lt (sv V12 5600 0 (v11).toNatClampNeg v10) fun V17 =>
  chk (inb v11 6) <|
  lt (v10 + (16 * (V17 9900 0 (v11).toNatClampNeg))) fun v19 =>
  chk (inb v11 6) <|
  lt (sv V17 5700 0 (v11).toNatClampNeg v19) fun V21 =>
  lt (v11 + 1) fun v22 =>
  f_X12_layout_L92 o0 k5 n13 v19 v22 V21)
def f_X12_layout_L4 (o0 : Nat) (k1 : Int32 → HV → Option (HV)) : Nat → Int32 → Int32 → HV → Option (HV)
  | 0, _, _, _ => none
  | n26 + 1, v23, v24, V25 =>
  if (V25 1018 o0 0) ≤ v24 then (k1 v23 V25) else (chk (inb v24 8) <|
  lt (sv V25 4000 0 (v24).toNatClampNeg v23) fun V30 =>
  chk (inb v24 8) <|
  lt (v23 + ((((4 * (V30 8800 0 (v24).toNatClampNeg)) + 15) / 16) * 16)) fun v32 =>
  chk (inb v24 8) <|
  lt (sv V30 4100 0 (v24).toNatClampNeg v32) fun V34 =>
  chk (inb v24 8) <|
  lt (v32 + (16 * (V34 9000 0 (v24).toNatClampNeg))) fun v36 =>
  chk (inb v24 8) <|
  lt (sv V34 4200 0 (v24).toNatClampNeg v36) fun V38 =>
  chk (inb v24 8) <|
  lt (v36 + (16 * (V38 8900 0 (v24).toNatClampNeg))) fun v40 =>
  chk (inb v24 8) <|
  lt (sv V38 4300 0 (v24).toNatClampNeg v40) fun V42 =>
  lt (v24 + 1) fun v43 =>
  f_X12_layout_L4 o0 k1 n26 v40 v43 V42)
def f_X12_layout (o0 : Nat) (V : HV) : Option (HV) :=
  jn (fun v3 V4 =>
  jn (fun v7 V8 =>
  lt (sv V8 1054 o0 0 v7) fun V9 =>
  some V9) fun k5 =>
  f_X12_layout_L92 o0 k5 FU v3 0 V4) fun k1 =>
  f_X12_layout_L4 o0 k1 FU 0 0 V
def f_X12_readAll_L323 (o0 : Nat) (k16 : HV → Option (HV)) : Nat → Int32 → HV → Option (HV)
  | 0, _, _ => none
  | n29 + 1, v27, V28 =>
  if (V28 1019 o0 0) ≤ v27 then (k16 V28) else (chk (inb v27 6) <|
  lt (if (V28 1018 o0 0) ≤ (V28 9700 0 (v27).toNatClampNeg) then (false) else (true) : Bool) fun v33 =>
  jn (fun V35 =>
  jn (fun V38 =>
  lt (v27 + 1) fun v41 =>
  f_X12_readAll_L323 o0 k16 n29 v41 V38) fun k39 =>
  if v33 = true then (chk (inb v27 6) <|
  chk (inb v27 6) <|
  chk (inb (V35 9700 0 (v27).toNatClampNeg) 8) <|
  if (V35 9800 0 (v27).toNatClampNeg) < (V35 4400 0 (V35 9700 0 (v27).toNatClampNeg).toNatClampNeg) then (k39 V35) else (chk (inb v27 6) <|
  lt (f_X12_fails o0 3 ((V35 9600 0 (v27).toNatClampNeg) + 1) V35) fun V48 =>
  k39 V48)) else (k39 V35)) fun k36 =>
  if v33 = true then (k36 V28) else (chk (inb v27 6) <|
  lt (f_X12_fails o0 3 (V28 9600 0 (v27).toNatClampNeg) V28) fun V51 =>
  k36 V51))
def f_X12_readAll_L185 (o0 : Nat) (v54 : Int32) (k60 : HV → Option (HV)) : Nat → Int32 → HV → Option (HV)
  | 0, _, _ => none
  | n66 + 1, v64, V65 =>
  chk (inb v54 8) <|
  if ((16 * v54) + (V65 9000 0 (v54).toNatClampNeg)) ≤ v64 then (k60 V65) else (chk (inb v64 128) <|
  lt (if (V65 9100 0 (v64).toNatClampNeg) = 0 then (true) else (false) : Bool) fun v71 =>
  jn (fun v73 =>
  jn (fun V76 =>
  jn (fun V79 =>
  lt (v64 + 1) fun v82 =>
  f_X12_readAll_L185 o0 v54 k60 n66 v82 V79) fun k80 =>
  if v73 = true then (if v71 = true then (chk (inb v64 128) <|
  chk (inb v64 128) <|
  chk (inb (V76 9200 0 (v64).toNatClampNeg) 8) <|
  if (V76 9300 0 (v64).toNatClampNeg) < (V76 4400 0 (V76 9200 0 (v64).toNatClampNeg).toNatClampNeg) then (k80 V76) else (chk (inb v64 128) <|
  lt (f_X12_fails o0 3 ((V76 9400 0 (v64).toNatClampNeg) + 2) V76) fun V90 =>
  k80 V90)) else (k80 V76)) else (k80 V76)) fun k77 =>
  if v73 = true then (k77 V65) else (chk (inb v64 128) <|
  lt (f_X12_fails o0 3 ((V65 9400 0 (v64).toNatClampNeg) + 1) V65) fun V93 =>
  k77 V93)) fun k74 =>
  jn (k74 true) fun k94 =>
  jn (chk (inb v64 128) <|
  if (V65 1018 o0 0) ≤ (V65 9200 0 (v64).toNatClampNeg) then (k74 false) else (k94)) fun k96 =>
  if v71 = true then (k96) else (chk (inb v64 128) <|
  if (V65 9100 0 (v64).toNatClampNeg) = 4 then (k96) else (k94)))
def f_X12_readAll_L172 (o0 : Nat) (k13 : HV → Option (HV)) : Nat → Int32 → HV → Option (HV)
  | 0, _, _ => none
  | n56 + 1, v54, V55 =>
  if (V55 1018 o0 0) ≤ v54 then (k13 V55) else (lt (16 * v54) fun v59 =>
  jn (fun V62 =>
  lt (v54 + 1) fun v63 =>
  f_X12_readAll_L172 o0 k13 n56 v63 V62) fun k60 =>
  f_X12_readAll_L185 o0 v54 k60 FU v59 V55)
def f_X12_readAll_L59 (o0 : Nat) (k9 : HV → Option (HV)) : Nat → Int32 → HV → Option (HV)
  | 0, _, _ => none
  | n107 + 1, v105, V106 =>
  if (V106 1019 o0 0) ≤ v105 then (k9 V106) else (if (V106 1015 o0 0) = 0 then (chk (inb v105 6) <|
  lt (sv V106 9600 0 (v105).toNatClampNeg (V106 1014 o0 0)) fun V112 =>
  bnd (f_X12_next o0 1 0 255 V112) fun p113 =>
  chk (inb v105 6) <|
  lt (sv p113.2 9700 0 (v105).toNatClampNeg p113.1) fun V115 =>
  bnd (f_X12_next o0 1 0 255 V115) fun p116 =>
  chk (inb v105 6) <|
  lt (sv p116.2 9800 0 (v105).toNatClampNeg p116.1) fun V118 =>
  bnd (f_X12_next o0 1 0 7 V118) fun p119 =>
  chk (inb v105 6) <|
  lt (sv p119.2 5500 0 (v105).toNatClampNeg p119.1) fun V121 =>
  bnd (f_X12_next o0 1 1 32 V121) fun p122 =>
  chk (inb v105 6) <|
  lt (sv p122.2 9900 0 (v105).toNatClampNeg p122.1) fun V124 =>
  bnd (f_X12_next o0 1 0 16 V124) fun p125 =>
  chk (inb v105 6) <|
  lt (sv p125.2 5100 0 (v105).toNatClampNeg p125.1) fun V127 =>
  lt (v105 + 1) fun v128 =>
  f_X12_readAll_L59 o0 k9 n107 v128 V127) else (k9 V106))
def f_X12_readAll_L31 (o0 : Nat) (k6 : HV → Option (HV)) : Nat → Int32 → HV → Option (HV)
  | 0, _, _ => none
  | n131 + 1, v129, V130 =>
  if (V130 1018 o0 0) ≤ v129 then (k6 V130) else (if (V130 1015 o0 0) = 0 then (bnd (f_X12_readCompartment o0 v129 V130) fun p135 =>
  lt (v129 + 1) fun v136 =>
  f_X12_readAll_L31 o0 k6 n131 v136 p135) else (k6 V130))
def f_X12_readAll (o0 : Nat) (V : HV) : Option (HV) :=
  lt (sv V 1014 o0 0 0) fun V1 =>
  bnd (f_X12_next o0 1 1 8 V1) fun p2 =>
  lt (sv p2.2 1018 o0 0 p2.1) fun V3 =>
  bnd (f_X12_next o0 1 1 6 V3) fun p4 =>
  lt (sv p4.2 1019 o0 0 p4.1) fun V5 =>
  jn (fun V8 =>
  jn (fun V11 =>
  if (V11 1015 o0 0) = 0 then (jn (fun V15 =>
  jn (fun V18 =>
  jn (fun V19 =>
  bnd (f_X12_layout o0 V19) fun p22 =>
  if (p22 1054 o0 0) ≤ ((p22 1000 o0 0) - 16) then (some p22) else (lt (f_X12_fails o0 5 (p22 1013 o0 0) p22) fun V24 =>
  some V24)) fun k20 =>
  if (V18 1013 o0 0) ≤ (V18 1014 o0 0) then (k20 V18) else (lt (f_X12_fails o0 4 (V18 1014 o0 0) V18) fun V26 =>
  k20 V26)) fun k16 =>
  f_X12_readAll_L323 o0 k16 FU 0 V15) fun k13 =>
  f_X12_readAll_L172 o0 k13 FU 0 V11) else (some V11)) fun k9 =>
  f_X12_readAll_L59 o0 k9 FU 0 V8) fun k6 =>
  f_X12_readAll_L31 o0 k6 FU 0 V5
def f_X12_fill_L48 (o0 : Nat) (x1 : Int32) (k4 : HV → Option (HV)) : Nat → Int32 → HV → Option (HV)
  | 0, _, _ => none
  | n9 + 1, v7, V8 =>
  chk (inb x1 8) <|
  if (V8 9000 0 (x1).toNatClampNeg) ≤ v7 then (k4 V8) else (chk (inb ((16 * x1) + v7) 128) <|
  lt (V8 9200 0 ((16 * x1) + v7).toNatClampNeg) fun v14 =>
  chk (inb ((16 * x1) + v7) 128) <|
  lt (V8 9300 0 ((16 * x1) + v7).toNatClampNeg) fun v16 =>
  chk (inb ((16 * x1) + v7) 128) <|
  jn (fun V18 =>
  chk (inb x1 8) <|
  bnd (f_X12_putCapability o0 ((V18 4100 0 (x1).toNatClampNeg) + (16 * v7)) 582 true V18) fun p22 =>
  lt (v7 + 1) fun v23 =>
  f_X12_fill_L48 o0 x1 k4 n9 v23 p22) fun k19 =>
  if (V8 9100 0 ((16 * x1) + v7).toNatClampNeg) = 0 then (bnd (f_X12_make o0 582 ((16 * v14) + v16) 0 0 64 4 true V8) fun p25 =>
  k19 p25) else
  if (V8 9100 0 ((16 * x1) + v7).toNatClampNeg) = 1 then (bnd (f_X12_make o0 582 v14 0 0 64 6 true V8) fun p27 =>
  k19 p27) else
  if (V8 9100 0 ((16 * x1) + v7).toNatClampNeg) = 2 then (bnd (f_X12_make o0 582 268435456 268435456 268435472 (v14 ||| 64) 0 true V8) fun p29 =>
  k19 p29) else
  if (V8 9100 0 ((16 * x1) + v7).toNatClampNeg) = 3 then (bnd (f_X12_make o0 582 (8 + v14) (8 + v14) ((8 + v14) + v16) 96 0 true V8) fun p31 =>
  k19 p31) else
  chk (inb v14 8) <|
  chk (inb v14 8) <|
  chk (inb v14 8) <|
  bnd (f_X12_make o0 582 (V8 4200 0 (v14).toNatClampNeg) (V8 4200 0 (v14).toNatClampNeg) (V8 4300 0 (v14).toNatClampNeg) (v16 ||| 64) 0 true V8) fun p35 =>
  k19 p35)
def f_X12_fill_L2 (x1 : Int32) (k1 : HV → Option (HV)) : Nat → Int32 → HV → Option (HV)
  | 0, _, _ => none
  | n39 + 1, v37, V38 =>
  chk (inb x1 8) <|
  if (4 * (V38 8800 0 (x1).toNatClampNeg)) ≤ v37 then (k1 V38) else (chk (inb x1 8) <|
  chk (inb x1 8) <|
  chk (inb ((V38 9500 0 (x1).toNatClampNeg) + v37) 5000) <|
  chk (inb ((V38 4000 0 (x1).toNatClampNeg) + v37) 32768) <|
  lt (sv V38 2100 0 ((V38 4000 0 (x1).toNatClampNeg) + v37).toNatClampNeg (((V38 3200 0 ((V38 9500 0 (x1).toNatClampNeg) + v37).toNatClampNeg)).toInt8.toInt32)) fun V47 =>
  lt (v37 + 1) fun v48 =>
  f_X12_fill_L2 x1 k1 n39 v48 V47)
def f_X12_fill (o0 : Nat) (x1 : Int32) (V : HV) : Option (HV) :=
  jn (fun V3 =>
  jn (fun V6 =>
  some V6) fun k4 =>
  f_X12_fill_L48 o0 x1 k4 FU 0 V3) fun k1 =>
  f_X12_fill_L2 x1 k1 FU 0 V
def f_X12_starts (o0 : Nat) (x1 : Int32) (V : HV) : Option (HV) :=
  chk (inb x1 6) <|
  lt (V 9700 0 (x1).toNatClampNeg) fun v2 =>
  chk (inb x1 6) <|
  lt ((8 * v2) + (V 9800 0 (x1).toNatClampNeg)) fun v4 =>
  chk (inb x1 6) <|
  lt (sv V 4700 0 (x1).toNatClampNeg 0) fun V6 =>
  chk (inb x1 6) <|
  lt (sv V6 4800 0 (x1).toNatClampNeg (-1)) fun V8 =>
  chk (inb x1 6) <|
  lt (sv V8 4900 0 (x1).toNatClampNeg v2) fun V10 =>
  chk (inb x1 6) <|
  lt (sv V10 5000 0 (x1).toNatClampNeg 0) fun V12 =>
  chk (inb v4 64) <|
  lt (if (V12 4600 0 (v4).toNatClampNeg) = 2 then (false) else (true) : Bool) fun v14 =>
  chk (inb x1 6) <|
  lt (sv V12 5200 0 (x1).toNatClampNeg (b2i v14)) fun V17 =>
  chk (inb x1 6) <|
  lt (sv V17 5300 0 (x1).toNatClampNeg 0) fun V19 =>
  chk (inb x1 6) <|
  lt (sv V19 5400 0 (x1).toNatClampNeg 0) fun V21 =>
  chk (inb x1 6) <|
  chk (inb x1 6) <|
  lt (sv V21 5800 0 (x1).toNatClampNeg (V21 5700 0 (x1).toNatClampNeg)) fun V24 =>
  chk (inb x1 6) <|
  lt (sv V24 5900 0 (x1).toNatClampNeg 0) fun V26 =>
  chk (inb x1 6) <|
  lt (sv V26 6000 0 (x1).toNatClampNeg 0) fun V28 =>
  chk (inb x1 6) <|
  lt (sv V28 6300 0 (x1).toNatClampNeg 0) fun V30 =>
  chk (inb v4 64) <|
  lt (f_X12_reg x1 16) fun v32 =>
  bnd (f_X12_code o0 v2 (V30 4500 0 (v4).toNatClampNeg) v32 V30) fun p33 =>
  lt (f_X12_reg x1 1) fun v34 =>
  bnd (f_X12_make o0 v34 0 0 0 0 5 true p33) fun p35 =>
  chk (inb x1 6) <|
  lt (f_X12_reg x1 2) fun v37 =>
  bnd (f_X12_stack o0 x1 (p35 5700 0 (x1).toNatClampNeg) v37 p35) fun p38 =>
  lt (f_X12_reg x1 3) fun v39 =>
  bnd (f_X12_globals o0 v2 v39 p38) fun p40 =>
  some p40
def f_X12_boot_L118 (o0 : Nat) (k16 : HV → Option (Int32 × HV)) : Nat → Int32 → HV → Option (Int32 × HV)
  | 0, _, _ => none
  | n22 + 1, v20, V21 =>
  if (V21 1019 o0 0) ≤ v20 then (k16 V21) else (bnd (f_X12_starts o0 v20 V21) fun p25 =>
  lt (v20 + 1) fun v26 =>
  f_X12_boot_L118 o0 k16 n22 v26 p25)
def f_X12_boot_L97 (o0 : Nat) (k13 : HV → Option (Int32 × HV)) : Nat → Int32 → HV → Option (Int32 × HV)
  | 0, _, _ => none
  | n29 + 1, v27, V28 =>
  if (V28 1018 o0 0) ≤ v27 then (k13 V28) else (bnd (f_X12_fill o0 v27 V28) fun p32 =>
  lt (v27 + 1) fun v33 =>
  f_X12_boot_L97 o0 k13 n29 v33 p32)
def f_X12_boot_L16 (x1 : Int32) (k3 : HV → Option (Int32 × HV)) : Nat → Int32 → HV → Option (Int32 × HV)
  | 0, _, _ => none
  | n40 + 1, v38, V39 =>
  if x1 ≤ v38 then (k3 V39) else (chk (inb v38 5000) <|
  chk (inb v38 5000) <|
  lt (sv V39 3200 0 (v38).toNatClampNeg (((V39 3000 0 (v38).toNatClampNeg)).toInt8.toInt32)) fun V45 =>
  lt (v38 + 1) fun v46 =>
  f_X12_boot_L16 x1 k3 n40 v46 V45)
def f_X12_boot (o0 : Nat) (x1 : Int32) (V : HV) : Option (Int32 × HV) :=
  if x1 < 0 then (some ((-1), V)) else (if x1 ≤ (V 1011 o0 0) then (jn (fun V5 =>
  lt (sv V5 1011 o0 0 0) fun V6 =>
  lt (sv V6 1013 o0 0 x1) fun V7 =>
  bnd (f_X12_begins o0 V7) fun p8 =>
  lt (sv p8 1015 o0 0 0) fun V9 =>
  lt (sv V9 1016 o0 0 (-1)) fun V10 =>
  bnd (f_X12_readAll o0 V10) fun p11 =>
  if (p11 1015 o0 0) = 0 then (jn (fun V15 =>
  jn (fun V18 =>
  lt (sv V18 1017 o0 0 (b2i true)) fun V19 =>
  some (0, V19)) fun k16 =>
  f_X12_boot_L118 o0 k16 FU 0 V15) fun k13 =>
  f_X12_boot_L97 o0 k13 FU 0 p11) else (lt (p11 1015 o0 0) fun v34 =>
  lt (p11 1016 o0 0) fun v35 =>
  bnd (f_X12_begins o0 p11) fun p36 =>
  lt (sv p36 1016 o0 0 v35) fun V37 =>
  some (v34, V37))) fun k3 =>
  f_X12_boot_L16 x1 k3 FU 0 V) else (some ((-1), V)))
def f_X12_place (o0 : Nat) (V : HV) : Int32 :=
  (V 1016 o0 0)
def f_X12_d (o0 : Nat) (V : HV) : Int32 :=
  (((V 1081 o0 0) >>> ((7 : Int32) &&& 31)) &&& 31)
def f_X12_f (o0 : Nat) (V : HV) : Int32 :=
  (((V 1081 o0 0) >>> ((12 : Int32) &&& 31)) &&& 7)
def f_X12_a (o0 : Nat) (V : HV) : Int32 :=
  (((V 1081 o0 0) >>> ((15 : Int32) &&& 31)) &&& 31)
def f_X12_b (o0 : Nat) (V : HV) : Int32 :=
  (((V 1081 o0 0) >>> ((20 : Int32) &&& 31)) &&& 31)
def f_X12_g (o0 : Nat) (V : HV) : Int32 :=
  (((V 1081 o0 0) >>> ((25 : Int32) &&& 31)) &&& 127)
def f_X12_value (o0 : Nat) (x1 : Int32) (V : HV) : Option (Int32) :=
  lt (f_X12_reg (V 1080 o0 0) x1) fun v1 =>
  chk (inb v1 600) <|
  some (V 2400 0 (v1).toNatClampNeg)
def f_X12_writes (o0 : Nat) (x1 : Int32) (x2 : Int32) (V : HV) : Option (HV) :=
  if x1 = 0 then (some V) else (lt (f_X12_reg (V 1080 o0 0) x1) fun v2 =>
  bnd (f_X12_number o0 v2 x2 V) fun p3 =>
  some p3)
def f_X12_comes (o0 : Nat) (x1 : Int32) (x2 : Int32) (V : HV) : Option (HV) :=
  if x2 = 0 then (some V) else (lt (f_X12_reg (V 1080 o0 0) x2) fun v2 =>
  bnd (f_X12_copy o0 x1 v2 V) fun p3 =>
  some p3)
def f_X12_pcc (o0 : Nat) (V : HV) : Int32 :=
  lt (f_X12_reg (V 1080 o0 0) 16) fun v1 =>
  v1
def f_X12_goesOn (o0 : Nat) (V : HV) : Option (HV) :=
  lt (f_X12_pcc o0 V) fun v1 =>
  chk (inb v1 600) <|
  chk (inb v1 600) <|
  lt (sv V 2400 0 (v1).toNatClampNeg ((V 2400 0 (v1).toNatClampNeg) + 4)) fun V4 =>
  some V4
def f_X12_isRight (o0 : Nat) (V : HV) : Bool :=
  lt (f_X12_d o0 V) fun v1 =>
  lt (f_X12_a o0 V) fun v2 =>
  lt (f_X12_b o0 V) fun v3 =>
  lt (f_X12_f o0 V) fun v4 =>
  lt (f_X12_g o0 V) fun v5 =>
  lt (if 16 ≤ v1 then (false) else (if 16 ≤ v2 then (false) else (true)) : Bool) fun v6 =>
  if ((V 1081 o0 0) &&& 127) = 3 then (lt (if v6 = true then (if 6 ≤ v4 then (false) else (true)) else (false) : Bool) fun v9 =>
  v9) else
  if ((V 1081 o0 0) &&& 127) = 19 then (lt (if v6 = true then (if v4 = 1 then (if v5 = 0 then (if v4 = 5 then (if v5 = 0 then (true) else (if v5 = 32 then (true) else (false))) else (true)) else (false)) else (if v4 = 5 then (if v5 = 0 then (true) else (if v5 = 32 then (true) else (false))) else (true))) else (false) : Bool) fun v15 =>
  v15) else
  if ((V 1081 o0 0) &&& 127) = 23 then (lt (if 16 ≤ v1 then (false) else (true) : Bool) fun v28 =>
  v28) else
  if ((V 1081 o0 0) &&& 127) = 35 then (lt (if 16 ≤ v2 then (false) else (if 16 ≤ v3 then (false) else (if 4 ≤ v4 then (false) else (true))) : Bool) fun v33 =>
  v33) else
  if ((V 1081 o0 0) &&& 127) = 51 then (lt (if v6 = true then (if 16 ≤ v3 then (false) else (if v5 < 2 then (true) else (if v5 = 32 then (if v4 = 0 then (true) else (if v4 = 5 then (true) else (false))) else (false)))) else (false) : Bool) fun v40 =>
  v40) else
  if ((V 1081 o0 0) &&& 127) = 55 then (lt (if 16 ≤ v1 then (false) else (true) : Bool) fun v50 =>
  v50) else
  if ((V 1081 o0 0) &&& 127) = 91 then (if v6 = true then (if v4 ≤ 3 then (lt (if v4 = 0 then (if 16 ≤ v3 then (false) else (if 8 ≤ v5 then (false) else (true))) else (if 1 < v4 then (true) else (if v5 = 0 then (if 13 ≤ v3 then (false) else (true)) else (false))) : Bool) fun v57 =>
  v57) else (false)) else (false)) else
  if ((V 1081 o0 0) &&& 127) = 99 then (lt (if 16 ≤ v2 then (false) else (if 16 ≤ v3 then (false) else (if v4 = 2 then (false) else (if v4 = 3 then (false) else (true)))) : Bool) fun v67 =>
  v67) else
  if ((V 1081 o0 0) &&& 127) = 103 then (lt (if v6 = true then (if v4 = 0 then (true) else (false)) else (false) : Bool) fun v75 =>
  v75) else
  if ((V 1081 o0 0) &&& 127) = 111 then (lt (if 16 ≤ v1 then (false) else (true) : Bool) fun v81 =>
  v81) else
  false
def f_X12_link (o0 : Nat) (V : HV) : Option (HV) :=
  lt (f_X12_pcc o0 V) fun v1 =>
  bnd (f_X12_copy o0 v1 582 V) fun p2 =>
  chk (inb (582 : Int32) 600) <|
  chk (inb (582 : Int32) 600) <|
  lt (sv p2 2400 0 (582 : Int32).toNatClampNeg ((p2 2400 0 ((582 : Int32)).toNatClampNeg) + 4)) fun V5 =>
  chk (inb (V5 1080 o0 0) 6) <|
  lt (if (i2b (V5 5200 0 (V5 1080 o0 0).toNatClampNeg)) = true then (3) else (2) : Int32) fun v7 =>
  chk (inb (582 : Int32) 600) <|
  lt (sv V5 2800 0 (582 : Int32).toNatClampNeg v7) fun V10 =>
  some V10
def f_X12_branches (x0 : Int32) (x1 : Int32) (x2 : Int32) : Bool :=
  if x0 = 0 then (lt (if x1 = x2 then (true) else (false) : Bool) fun v2 =>
  v2) else
  if x0 = 1 then (lt (if x1 = x2 then (false) else (true) : Bool) fun v7 =>
  v7) else
  if x0 = 4 then (lt (if x2 ≤ x1 then (false) else (true) : Bool) fun v12 =>
  v12) else
  if x0 = 5 then (lt (if x1 < x2 then (false) else (true) : Bool) fun v17 =>
  v17) else
  if x0 = 6 then (lt (f_X12_plain x1) fun v22 =>
  lt (f_X12_plain x2) fun v23 =>
  lt (if 0 ≤ (lg_cmp v22 v23) then (false) else (true) : Bool) fun v24 =>
  v24) else
  lt (f_X12_plain x1) fun v28 =>
  lt (f_X12_plain x2) fun v29 =>
  lt (if (lg_cmp v28 v29) < 0 then (false) else (true) : Bool) fun v30 =>
  v30
def f_X12_sums (x0 : Int32) (x1 : Int32) (x2 : Int32) (x3 : Bool) : Int32 :=
  if x0 = 0 then ((x1 + x2)) else
  if x0 = 1 then ((x1 <<< ((x2 &&& 31) &&& 31))) else
  if x0 = 2 then (lt (if x2 ≤ x1 then (false) else (true) : Bool) fun v4 =>
  (b2i v4)) else
  if x0 = 3 then (lt (f_X12_plain x1) fun v9 =>
  lt (f_X12_plain x2) fun v10 =>
  lt (if 0 ≤ (lg_cmp v9 v10) then (false) else (true) : Bool) fun v11 =>
  (b2i v11)) else
  if x0 = 4 then ((x1 ^^^ x2)) else
  if x0 = 5 then (lt (if x3 = true then ((x1 >>> ((x2 &&& 31) &&& 31))) else ((((x1).toUInt32 >>> (Int32.toUInt32 (x2 &&& 31) &&& Int32.toUInt32 31)).toInt32)) : Int32) fun v17 =>
  v17) else
  if x0 = 6 then ((x1 ||| x2)) else
  (x1 &&& x2)
def f_X12_products (x0 : Int32) (x1 : Int32) (x2 : Int32) : Option (Int32) :=
  if x0 = 0 then (some (x1 * x2)) else
  if x0 = 1 then (some (((x1.toInt64 * x2.toInt64) >>> (Int32.toInt64 (32 : Int32) &&& 63)).toInt32)) else
  if x0 = 2 then (lt (f_X12_plain x2) fun v4 =>
  some (((x1.toInt64 * v4) >>> (Int32.toInt64 (32 : Int32) &&& 63)).toInt32)) else
  if x0 = 3 then (lt (f_X12_plain x1) fun v6 =>
  lt (f_X12_plain x2) fun v7 =>
  some ((((v6 * v7).toUInt64 >>> ((Int32.toInt64 (32 : Int32)).toUInt64 &&& Int64.toUInt64 63)).toInt64).toInt32)) else
  if x0 = 4 then (if x2 = 0 then (some (-1)) else (if x2 = (-1) then (some (-x1)) else (chk (¬ x2 = 0) <|
  some (x1 / x2)))) else
  if x0 = 5 then (if x2 = 0 then (some (-1)) else (lt (f_X12_plain x1) fun v14 =>
  lt (f_X12_plain x2) fun v15 =>
  chk (¬ v15 = 0) <|
  some ((v14 / v15).toInt32))) else
  if x0 = 6 then (if x2 = 0 then (some x1) else (if x2 = (-1) then (some 0) else (chk (¬ x2 = 0) <|
  some (x1 - x1 / x2 * x2)))) else
  if x2 = 0 then (some x1) else (lt (f_X12_plain x1) fun v22 =>
  lt (f_X12_plain x2) fun v23 =>
  chk (¬ v23 = 0) <|
  some ((v22 - v22 / v23 * v23).toInt32))
def f_X12_isDevice (o0 : Nat) (x1 : Int32) : Bool :=
  lt (f_X12_plain x1) fun v1 =>
  lt (if (lg_cmp v1 (268435456 : Int64)) < 0 then (false) else (true) : Bool) fun v2 =>
  v2
def f_X12_device_L55 (o0 : Nat) (k8 : HV → Option (Int32 × HV)) : Nat → Int32 → HV → Option (Int32 × HV)
  | 0, _, _ => none
  | n13 + 1, v11, V12 =>
  if (V12 1064 o0 0) ≤ v11 then (k8 V12) else (chk (inb (v11 + 1) 64) <|
  chk (inb v11 64) <|
  lt (sv V12 8300 0 (v11).toNatClampNeg (V12 8300 0 (v11 + 1).toNatClampNeg)) fun V18 =>
  lt (v11 + 1) fun v19 =>
  f_X12_device_L55 o0 k8 n13 v19 V18)
def f_X12_device (o0 : Nat) (x1 : Int32) (V : HV) : Option (Int32 × HV) :=
  if x1 = 4 then (some ((V 1047 o0 0), V)) else (if x1 = 8 then (some ((V 1080 o0 0), V)) else (if x1 = 0 then (if (V 1064 o0 0) = 0 then (some ((-1), V)) else (chk (inb (0 : Int32) 64) <|
  lt (V 8300 0 ((0 : Int32)).toNatClampNeg) fun v6 =>
  lt (sv V 1064 o0 0 ((V 1064 o0 0) - 1)) fun V7 =>
  jn (fun V10 =>
  some (v6, V10)) fun k8 =>
  f_X12_device_L55 o0 k8 FU 0 V7)) else (some (0, V))))
def f_X12_loads (o0 : Nat) (x1 : Int32) (V : HV) : Option (Int32 × HV) :=
  lt (f_X12_f o0 V) fun v1 =>
  lt (f_X12_a o0 V) fun v2 =>
  lt (f_X12_reg (V 1080 o0 0) v2) fun v3 =>
  lt (if v1 = 0 then (1) else (if v1 = 4 then (1) else (if v1 = 1 then (2) else (if v1 = 5 then (2) else (if v1 = 2 then (4) else (16))))) : Int32) fun v4 =>
  bnd (f_X12_refuses o0 v3 1 x1 v4 V) fun p6 =>
  if p6 = 0 then (lt (f_X12_isDevice o0 x1) fun v8 =>
  jn (lt (f_X12_isDevice o0 x1) fun v11 =>
  jn (fun V12 =>
  bnd (f_X12_goesOn o0 V12) fun p15 =>
  some (0, p15)) fun k13 =>
  if v11 = true then (lt (f_X12_d o0 V) fun v41 =>
  bnd (f_X12_device o0 (x1 - 268435456) V) fun p42 =>
  bnd (f_X12_writes o0 v41 p42.1 p42.2) fun p43 =>
  k13 p43) else (if v4 = 16 then (bnd (f_X12_getCapability o0 x1 582 V) fun p26 =>
  chk (inb (582 : Int32) 600) <|
  jn (fun v28 =>
  chk (inb (582 : Int32) 600) <|
  lt (sv p26 2900 0 (582 : Int32).toNatClampNeg (b2i v28)) fun V32 =>
  bnd (f_X12_filter o0 582 V32) fun p33 =>
  lt (f_X12_d o0 p33) fun v34 =>
  bnd (f_X12_comes o0 582 v34 p33) fun p35 =>
  k13 p35) fun k29 =>
  jn (k29 false) fun k36 =>
  if (i2b (p26 2900 0 ((582 : Int32)).toNatClampNeg)) = true then (chk (inb v3 600) <|
  if ((p26 2700 0 (v3).toNatClampNeg) &&& 8) = 0 then (k36) else (k29 true)) else (k36)) else (bnd (f_X12_get o0 x1 v4 V) fun p18 =>
  lt (f_X12_d o0 V) fun v19 =>
  lt (if v1 = 0 then (p18.toInt8.toInt32) else (if v1 = 1 then (p18.toInt16.toInt32) else (p18)) : Int32) fun v20 =>
  bnd (f_X12_writes o0 v19 v20 V) fun p22 =>
  k13 p22))) fun k9 =>
  if v8 = true then (if v4 = 4 then (k9) else (some (5, V))) else (k9)) else (some (p6, V))
def f_X12_writesOut (o0 : Nat) (x1 : Int32) (V : HV) : Option (HV) :=
  jn (fun V1 =>
  chk (inb (((V1 1066 o0 0) + (V1 1067 o0 0)) - ((V1 1066 o0 0) + (V1 1067 o0 0)) / 500 * 500) 500) <|
  lt (sv V1 8500 0 (((V1 1066 o0 0) + (V1 1067 o0 0)) - ((V1 1066 o0 0) + (V1 1067 o0 0)) / 500 * 500).toNatClampNeg x1) fun V5 =>
  lt (sv V5 1067 o0 0 ((V5 1067 o0 0) + 1)) fun V6 =>
  some V6) fun k2 =>
  if (V 1067 o0 0) = 500 then (lt (sv V 1066 o0 0 (((V 1066 o0 0) + 1) - ((V 1066 o0 0) + 1) / 500 * 500)) fun V8 =>
  lt (sv V8 1067 o0 0 ((V8 1067 o0 0) - 1)) fun V9 =>
  k2 V9) else (k2 V)
def f_X12_stores (o0 : Nat) (x1 : Int32) (V : HV) : Option (Int32 × HV) :=
  lt (f_X12_f o0 V) fun v1 =>
  lt (if v1 = 0 then (1) else (if v1 = 1 then (2) else (if v1 = 2 then (4) else (16))) : Int32) fun v2 =>
  lt (f_X12_a o0 V) fun v4 =>
  lt (f_X12_reg (V 1080 o0 0) v4) fun v5 =>
  lt (f_X12_b o0 V) fun v6 =>
  lt (f_X12_reg (V 1080 o0 0) v6) fun v7 =>
  bnd (f_X12_refuses o0 v5 2 x1 v2 V) fun p8 =>
  if p8 = 0 then (lt (f_X12_isDevice o0 x1) fun v10 =>
  jn (lt (f_X12_isDevice o0 x1) fun v13 =>
  jn (fun V14 =>
  bnd (f_X12_goesOn o0 V14) fun p17 =>
  some (0, p17)) fun k15 =>
  if v13 = true then (if x1 = 268435456 then (chk (inb v7 600) <|
  bnd (f_X12_writesOut o0 ((V 2400 0 (v7).toNatClampNeg) &&& 255) V) fun p46 =>
  k15 p46) else (k15 V)) else (if v2 = 16 then (chk (inb v5 600) <|
  jn (fun v25 =>
  chk (inb v7 600) <|
  lt (if (i2b (V 2900 0 (v7).toNatClampNeg)) = true then (if v25 = true then (true) else (false)) else (false) : Bool) fun v29 =>
  bnd (f_X12_putCapability o0 x1 v7 v29 V) fun p31 =>
  k15 p31) fun k26 =>
  jn (k26 false) fun k35 =>
  if ((V 2700 0 (v5).toNatClampNeg) &&& 16) = 0 then (k35) else (chk (inb v7 600) <|
  jn (k26 true) fun k39 =>
  if ((V 2700 0 (v7).toNatClampNeg) &&& 64) = 0 then (chk (inb v5 600) <|
  if ((V 2700 0 (v5).toNatClampNeg) &&& 128) = 0 then (k35) else (k39)) else (k39))) else (chk (inb v7 600) <|
  bnd (f_X12_put o0 x1 v2 (V 2400 0 (v7).toNatClampNeg) V) fun p21 =>
  chk (inb (x1 / 16) 2048) <|
  lt (sv p21 2200 0 (x1 / 16).toNatClampNeg (b2i false)) fun V23 =>
  k15 V23))) fun k11 =>
  if v10 = true then (if v2 = 4 then (k11) else (some (5, V))) else (k11)) else (some (p8, V))
def f_X12_asks (o0 : Nat) (x1 : Int32) (V : HV) : Option (HV) :=
  lt (f_X12_b o0 V) fun v1 =>
  jn (fun V2 =>
  lt (f_X12_d o0 V2) fun v5 =>
  bnd (f_X12_comes o0 582 v5 V2) fun p6 =>
  some p6) fun k3 =>
  if v1 = 0 then (lt (f_X12_d o0 V) fun v8 =>
  chk (inb x1 600) <|
  bnd (f_X12_writes o0 v8 (V 2700 0 (x1).toNatClampNeg) V) fun p10 =>
  some p10) else
  if v1 = 1 then (lt (f_X12_d o0 V) fun v12 =>
  chk (inb x1 600) <|
  bnd (f_X12_writes o0 v12 (V 2800 0 (x1).toNatClampNeg) V) fun p14 =>
  some p14) else
  if v1 = 2 then (lt (f_X12_d o0 V) fun v16 =>
  chk (inb x1 600) <|
  bnd (f_X12_writes o0 v16 (V 2500 0 (x1).toNatClampNeg) V) fun p18 =>
  some p18) else
  if v1 = 3 then (lt (f_X12_d o0 V) fun v20 =>
  chk (inb x1 600) <|
  chk (inb x1 600) <|
  bnd (f_X12_writes o0 v20 ((V 2600 0 (x1).toNatClampNeg) - (V 2500 0 (x1).toNatClampNeg)) V) fun p23 =>
  some p23) else
  if v1 = 4 then (lt (f_X12_d o0 V) fun v25 =>
  chk (inb x1 600) <|
  lt (if (i2b (V 2900 0 (x1).toNatClampNeg)) = true then (true) else (false) : Bool) fun v27 =>
  bnd (f_X12_writes o0 v25 (b2i v27) V) fun p29 =>
  some p29) else
  if v1 = 5 then (lt (f_X12_d o0 V) fun v33 =>
  chk (inb x1 600) <|
  bnd (f_X12_writes o0 v33 (V 2600 0 (x1).toNatClampNeg) V) fun p35 =>
  some p35) else
  if v1 = 6 then (lt (f_X12_d o0 V) fun v37 =>
  chk (inb x1 600) <|
  bnd (f_X12_writes o0 v37 (V 2400 0 (x1).toNatClampNeg) V) fun p39 =>
  some p39) else
  if v1 = 7 then (lt (f_X12_d o0 V) fun v41 =>
  chk (inb (V 1080 o0 0) 6) <|
  lt (if (i2b (V 5200 0 (V 1080 o0 0).toNatClampNeg)) = true then (true) else (false) : Bool) fun v43 =>
  bnd (f_X12_writes o0 v41 (b2i v43) V) fun p45 =>
  some p45) else
  if v1 = 8 then (k3 V) else
  if v1 = 9 then (chk (inb (582 : Int32) 600) <|
  lt (sv V 2900 0 (582 : Int32).toNatClampNeg (b2i false)) fun V51 =>
  k3 V51) else
  chk (inb x1 600) <|
  jn (fun v53 =>
  chk (inb (582 : Int32) 600) <|
  lt (sv V 2900 0 (582 : Int32).toNatClampNeg (b2i v53)) fun V57 =>
  if v53 = true then (lt (f_X12_b o0 V57) fun v59 =>
  chk (inb (582 : Int32) 600) <|
  lt (sv V57 2800 0 (582 : Int32).toNatClampNeg (v59 - 9)) fun V61 =>
  k3 V61) else (k3 V57)) fun k54 =>
  jn (k54 false) fun k62 =>
  if (i2b (V 2900 0 (x1).toNatClampNeg)) = true then (chk (inb x1 600) <|
  if (V 2800 0 (x1).toNatClampNeg) = 0 then (chk (inb x1 600) <|
  if ((V 2700 0 (x1).toNatClampNeg) &&& 4) = 0 then (k62) else (k54 true)) else (k62)) else (k62)
def f_X12_bounds (o0 : Nat) (x1 : Int32) (x2 : Int64) (x3 : Bool) (V : HV) : Option (HV) :=
  chk (inb x1 600) <|
  lt (f_X12_plain (V 2400 0 (x1).toNatClampNeg)) fun v2 =>
  chk (inb x1 600) <|
  chk (inb (582 : Int32) 600) <|
  lt (sv V 2500 0 (582 : Int32).toNatClampNeg (V 2400 0 (x1).toNatClampNeg)) fun V5 =>
  chk (inb (582 : Int32) 600) <|
  lt (sv V5 2600 0 (582 : Int32).toNatClampNeg ((v2 + x2).toInt32)) fun V7 =>
  jn (fun v8 =>
  chk (inb (582 : Int32) 600) <|
  lt (sv V7 2900 0 (582 : Int32).toNatClampNeg (b2i v8)) fun V12 =>
  some V12) fun k9 =>
  jn (k9 false) fun k13 =>
  if x3 = true then (chk (inb x1 600) <|
  lt (f_X12_plain (V7 2500 0 (x1).toNatClampNeg)) fun v17 =>
  if (lg_cmp v2 v17) < 0 then (k13) else (chk (inb x1 600) <|
  lt (f_X12_plain (V7 2600 0 (x1).toNatClampNeg)) fun v20 =>
  if 0 < (lg_cmp (v2 + x2) v20) then (k13) else (k9 true))) else (k13)
def f_X12_seals (o0 : Nat) (x1 : Int32) (x2 : Int32) (x3 : Bool) (V : HV) : Option (HV) :=
  chk (inb x2 600) <|
  lt (f_X12_plain (V 2400 0 (x2).toNatClampNeg)) fun v2 =>
  chk (inb x2 600) <|
  jn (fun v4 =>
  lt (f_X12_g o0 V) fun v7 =>
  if v7 = 4 then (lt (if x3 = true then (if v4 = true then (true) else (false)) else (false) : Bool) fun v31 =>
  chk (inb (582 : Int32) 600) <|
  lt (sv V 2900 0 (582 : Int32).toNatClampNeg (b2i v31)) fun V34 =>
  chk (inb (582 : Int32) 600) <|
  if (i2b (V34 2900 0 ((582 : Int32)).toNatClampNeg)) = true then (chk (inb x2 600) <|
  chk (inb (582 : Int32) 600) <|
  lt (sv V34 2800 0 (582 : Int32).toNatClampNeg (V34 2400 0 (x2).toNatClampNeg)) fun V39 =>
  some V39) else (some V34)) else (chk (inb x1 600) <|
  jn (fun v10 =>
  chk (inb (582 : Int32) 600) <|
  lt (sv V 2900 0 (582 : Int32).toNatClampNeg (b2i v10)) fun V14 =>
  chk (inb (582 : Int32) 600) <|
  if (i2b (V14 2900 0 ((582 : Int32)).toNatClampNeg)) = true then (chk (inb (582 : Int32) 600) <|
  lt (sv V14 2800 0 (582 : Int32).toNatClampNeg 0) fun V18 =>
  chk (inb x2 600) <|
  if ((V18 2700 0 (x2).toNatClampNeg) &&& 64) = 0 then (chk (inb (582 : Int32) 600) <|
  chk (inb (582 : Int32) 600) <|
  lt (sv V18 2700 0 (582 : Int32).toNatClampNeg ((V18 2700 0 ((582 : Int32)).toNatClampNeg) &&& (-65))) fun V23 =>
  some V23) else (some V18)) else (some V14)) fun k11 =>
  jn (k11 false) fun k24 =>
  if (i2b (V 2900 0 (x1).toNatClampNeg)) = true then (if v4 = true then (chk (inb x1 600) <|
  chk (inb x2 600) <|
  if (V 2800 0 (x1).toNatClampNeg) = (V 2400 0 (x2).toNatClampNeg) then (k11 true) else (k24)) else (k24)) else (k24))) fun k5 =>
  jn (k5 false) fun k43 =>
  if (i2b (V 2900 0 (x2).toNatClampNeg)) = true then (chk (inb x2 600) <|
  if (V 2800 0 (x2).toNatClampNeg) = 0 then (chk (inb x2 600) <|
  if ((V 2700 0 (x2).toNatClampNeg) &&& 32) = 0 then (k43) else (chk (inb x2 600) <|
  lt (f_X12_plain (V 2500 0 (x2).toNatClampNeg)) fun v51 =>
  if (lg_cmp v2 v51) < 0 then (k43) else (chk (inb x2 600) <|
  lt (f_X12_plain (V 2600 0 (x2).toNatClampNeg)) fun v54 =>
  if 0 ≤ (lg_cmp v2 v54) then (k43) else (if (lg_cmp v2 (8 : Int64)) < 0 then (k43) else (if 0 < (lg_cmp v2 (255 : Int64)) then (k43) else (k5 true)))))) else (k43)) else (k43)
def f_X12_isWithin (o0 : Nat) (x1 : Int32) (x2 : Int32) (V : HV) : Option (Bool) :=
  chk (inb x1 600) <|
  lt (f_X12_plain (V 2500 0 (x1).toNatClampNeg)) fun v2 =>
  chk (inb x2 600) <|
  lt (f_X12_plain (V 2500 0 (x2).toNatClampNeg)) fun v4 =>
  if (lg_cmp v2 v4) < 0 then (some false) else (chk (inb x1 600) <|
  lt (f_X12_plain (V 2600 0 (x1).toNatClampNeg)) fun v7 =>
  chk (inb x2 600) <|
  lt (f_X12_plain (V 2600 0 (x2).toNatClampNeg)) fun v9 =>
  if 0 < (lg_cmp v7 v9) then (some false) else (chk (inb x1 600) <|
  chk (inb x2 600) <|
  if ((V 2700 0 (x1).toNatClampNeg) &&& ((V 2700 0 (x2).toNatClampNeg) ^^^ (-1))) = 0 then (chk (inb x2 600) <|
  chk (inb x1 600) <|
  if (b2i (i2b (V 2900 0 (x2).toNatClampNeg))) = (b2i (i2b (V 2900 0 (x1).toNatClampNeg))) then (some true) else (some false)) else (some false)))
def f_X12_isLike (o0 : Nat) (x1 : Int32) (x2 : Int32) (V : HV) : Option (Bool) :=
  chk (inb x1 600) <|
  chk (inb x2 600) <|
  if (V 2400 0 (x1).toNatClampNeg) = (V 2400 0 (x2).toNatClampNeg) then (chk (inb x1 600) <|
  chk (inb x2 600) <|
  if (V 2500 0 (x1).toNatClampNeg) = (V 2500 0 (x2).toNatClampNeg) then (chk (inb x1 600) <|
  chk (inb x2 600) <|
  if (V 2600 0 (x1).toNatClampNeg) = (V 2600 0 (x2).toNatClampNeg) then (chk (inb x1 600) <|
  chk (inb x2 600) <|
  if (V 2700 0 (x1).toNatClampNeg) = (V 2700 0 (x2).toNatClampNeg) then (chk (inb x1 600) <|
  chk (inb x2 600) <|
  if (V 2800 0 (x1).toNatClampNeg) = (V 2800 0 (x2).toNatClampNeg) then (chk (inb x1 600) <|
  chk (inb x2 600) <|
  if (b2i (i2b (V 2900 0 (x1).toNatClampNeg))) = (b2i (i2b (V 2900 0 (x2).toNatClampNeg))) then (some true) else (some false)) else (some false)) else (some false)) else (some false)) else (some false)) else (some false)
def f_X12_shapes (o0 : Nat) (x1 : Int32) (V : HV) : Option (HV) :=
  lt (f_X12_a o0 V) fun v1 =>
  lt (f_X12_reg (V 1080 o0 0) v1) fun v2 =>
  lt (f_X12_b o0 V) fun v3 =>
  lt (f_X12_reg (V 1080 o0 0) (v3 &&& 15)) fun v4 =>
  bnd (f_X12_copy o0 v2 582 V) fun p5 =>
  chk (inb v2 600) <|
  jn (fun v7 =>
  lt (f_X12_f o0 p5) fun v10 =>
  if v10 = 1 then (bnd (f_X12_asks o0 v2 p5) fun p71 =>
  some p71) else (lt (f_X12_f o0 p5) fun v12 =>
  jn (fun V13 =>
  lt (f_X12_d o0 V13) fun v16 =>
  bnd (f_X12_comes o0 582 v16 V13) fun p17 =>
  some p17) fun k14 =>
  if v12 = 2 then (chk (inb (582 : Int32) 600) <|
  chk (inb (582 : Int32) 600) <|
  lt (sv p5 2400 0 (582 : Int32).toNatClampNeg ((p5 2400 0 ((582 : Int32)).toNatClampNeg) + x1)) fun V68 =>
  chk (inb (582 : Int32) 600) <|
  lt (sv V68 2900 0 (582 : Int32).toNatClampNeg (b2i v7)) fun V70 =>
  k14 V70) else (lt (f_X12_f o0 p5) fun v19 =>
  if v19 = 3 then (lt (f_X12_plain ((((p5 1081 o0 0)).toUInt32 >>> (Int32.toUInt32 (20 : Int32) &&& Int32.toUInt32 31)).toInt32)) fun v64 =>
  bnd (f_X12_bounds o0 v2 v64 v7 p5) fun p65 =>
  k14 p65) else (lt (f_X12_g o0 p5) fun v21 =>
  if v21 = 0 then (chk (inb (582 : Int32) 600) <|
  chk (inb v4 600) <|
  chk (inb (582 : Int32) 600) <|
  lt (sv p5 2400 0 (582 : Int32).toNatClampNeg ((p5 2400 0 ((582 : Int32)).toNatClampNeg) + (p5 2400 0 (v4).toNatClampNeg))) fun V61 =>
  chk (inb (582 : Int32) 600) <|
  lt (sv V61 2900 0 (582 : Int32).toNatClampNeg (b2i v7)) fun V63 =>
  k14 V63) else (lt (f_X12_g o0 p5) fun v23 =>
  if v23 = 1 then (chk (inb v4 600) <|
  chk (inb (582 : Int32) 600) <|
  lt (sv p5 2400 0 (582 : Int32).toNatClampNeg (p5 2400 0 (v4).toNatClampNeg)) fun V55 =>
  chk (inb (582 : Int32) 600) <|
  lt (sv V55 2900 0 (582 : Int32).toNatClampNeg (b2i v7)) fun V57 =>
  k14 V57) else (lt (f_X12_g o0 p5) fun v25 =>
  if v25 = 2 then (chk (inb v4 600) <|
  lt (f_X12_plain (p5 2400 0 (v4).toNatClampNeg)) fun v51 =>
  bnd (f_X12_bounds o0 v2 v51 v7 p5) fun p52 =>
  k14 p52) else (lt (f_X12_g o0 p5) fun v27 =>
  if v27 = 3 then (chk (inb v2 600) <|
  chk (inb v4 600) <|
  chk (inb (582 : Int32) 600) <|
  lt (sv p5 2700 0 (582 : Int32).toNatClampNeg (((p5 2700 0 (v2).toNatClampNeg) &&& (p5 2400 0 (v4).toNatClampNeg)) &&& 255)) fun V47 =>
  chk (inb (582 : Int32) 600) <|
  lt (sv V47 2900 0 (582 : Int32).toNatClampNeg (b2i v7)) fun V49 =>
  k14 V49) else (lt (f_X12_g o0 p5) fun v29 =>
  if 6 ≤ v29 then (lt (f_X12_g o0 p5) fun v31 =>
  jn (fun v32 =>
  lt (if v32 = true then (true) else (false) : Bool) fun v35 =>
  bnd (f_X12_number o0 582 (b2i v35) p5) fun p37 =>
  k14 p37) fun k33 =>
  if v31 = 6 then (bnd (f_X12_isWithin o0 v4 v2 p5) fun p42 =>
  k33 p42) else (bnd (f_X12_isLike o0 v2 v4 p5) fun p41 =>
  k33 p41)) else (bnd (f_X12_seals o0 v2 v4 v7 p5) fun p43 =>
  k14 p43))))))))) fun k8 =>
  jn (k8 false) fun k72 =>
  if (i2b (p5 2900 0 (v2).toNatClampNeg)) = true then (chk (inb v2 600) <|
  if (p5 2800 0 (v2).toNatClampNeg) = 0 then (k8 true) else (k72)) else (k72)
def f_X12_isStack (o0 : Nat) (V : HV) : Option (Bool) :=
  lt (f_X12_reg (V 1080 o0 0) 2) fun v1 =>
  chk (inb v1 600) <|
  if (i2b (V 2900 0 (v1).toNatClampNeg)) = true then (chk (inb v1 600) <|
  if (V 2800 0 (v1).toNatClampNeg) = 0 then (chk (inb v1 600) <|
  if ((V 2700 0 (v1).toNatClampNeg) &&& 2) = 0 then (some false) else (chk (inb v1 600) <|
  chk (inb (V 1080 o0 0) 6) <|
  if (V 2500 0 (v1).toNatClampNeg) = (V 5600 0 (V 1080 o0 0).toNatClampNeg) then (chk (inb v1 600) <|
  chk (inb (V 1080 o0 0) 6) <|
  if (V 2600 0 (v1).toNatClampNeg) = (V 5800 0 (V 1080 o0 0).toNatClampNeg) then (chk (inb v1 600) <|
  chk (inb (V 1080 o0 0) 6) <|
  if (V 2400 0 (v1).toNatClampNeg) < (V 5600 0 (V 1080 o0 0).toNatClampNeg) then (some false) else (chk (inb v1 600) <|
  chk (inb (V 1080 o0 0) 6) <|
  if (V 5800 0 (V 1080 o0 0).toNatClampNeg) < (V 2400 0 (v1).toNatClampNeg) then (some false) else (chk (inb v1 600) <|
  if ((V 2400 0 (v1).toNatClampNeg) - (V 2400 0 (v1).toNatClampNeg) / 16 * 16) = 0 then (some true) else (some false)))) else (some false)) else (some false))) else (some false)) else (some false)
def f_X12_call_L309 (o0 : Nat) (k42 : HV → Option (HV)) : Nat → Int32 → HV → Option (HV)
  | 0, _, _ => none
  | n70 + 1, v68, V69 =>
  if 10 ≤ v68 then (k42 V69) else (lt (f_X12_reg (V69 1080 o0 0) v68) fun v73 =>
  bnd (f_X12_nothing o0 v73 V69) fun p74 =>
  lt (v68 + 1) fun v75 =>
  f_X12_call_L309 o0 k42 n70 v75 p74)
def f_X12_call (o0 : Nat) (x1 : Int32) (V : HV) : Option (HV) :=
  bnd (f_X12_goesOn o0 V) fun p1 =>
  chk (inb (p1 1080 o0 0) 6) <|
  chk (inb (p1 1080 o0 0) 6) <|
  if (p1 5000 0 (p1 1080 o0 0).toNatClampNeg) = (p1 5100 0 (p1 1080 o0 0).toNatClampNeg) then (lt (f_X12_reg (p1 1080 o0 0) 10) fun v76 =>
  bnd (f_X12_number o0 v76 (-1) p1) fun p77 =>
  lt (f_X12_reg (p77 1080 o0 0) 11) fun v78 =>
  bnd (f_X12_number o0 v78 8 p77) fun p79 =>
  some p79) else (lt (sv p1 1050 o0 0 ((p1 1050 o0 0) + 1)) fun V5 =>
  chk (inb (V5 1080 o0 0) 6) <|
  lt (V5 5000 0 (V5 1080 o0 0).toNatClampNeg) fun v7 =>
  lt (f_X12_pcc o0 V5) fun v8 =>
  lt (f_X12_frame (V5 1080 o0 0) v7 0) fun v9 =>
  bnd (f_X12_copy o0 v8 v9 V5) fun p10 =>
  lt (f_X12_reg (p10 1080 o0 0) 2) fun v11 =>
  lt (f_X12_frame (p10 1080 o0 0) v7 1) fun v12 =>
  bnd (f_X12_copy o0 v11 v12 p10) fun p13 =>
  lt (f_X12_reg (p13 1080 o0 0) 3) fun v14 =>
  lt (f_X12_frame (p13 1080 o0 0) v7 2) fun v15 =>
  bnd (f_X12_copy o0 v14 v15 p13) fun p16 =>
  lt (f_X12_reg (p16 1080 o0 0) 8) fun v17 =>
  lt (f_X12_frame (p16 1080 o0 0) v7 3) fun v18 =>
  bnd (f_X12_copy o0 v17 v18 p16) fun p19 =>
  lt (f_X12_reg (p19 1080 o0 0) 9) fun v20 =>
  lt (f_X12_frame (p19 1080 o0 0) v7 4) fun v21 =>
  bnd (f_X12_copy o0 v20 v21 p19) fun p22 =>
  chk (inb (p22 1080 o0 0) 6) <|
  chk (inb ((16 * (p22 1080 o0 0)) + v7) 96) <|
  lt (sv p22 6400 0 ((16 * (p22 1080 o0 0)) + v7).toNatClampNeg (p22 4900 0 (p22 1080 o0 0).toNatClampNeg)) fun V25 =>
  chk (inb (V25 1080 o0 0) 6) <|
  chk (inb ((16 * (V25 1080 o0 0)) + v7) 96) <|
  lt (sv V25 6500 0 ((16 * (V25 1080 o0 0)) + v7).toNatClampNeg (b2i (i2b (V25 5200 0 (V25 1080 o0 0).toNatClampNeg)))) fun V28 =>
  chk (inb (V28 1080 o0 0) 6) <|
  chk (inb ((16 * (V28 1080 o0 0)) + v7) 96) <|
  lt (sv V28 6600 0 ((16 * (V28 1080 o0 0)) + v7).toNatClampNeg (V28 5800 0 (V28 1080 o0 0).toNatClampNeg)) fun V31 =>
  chk (inb (V31 1080 o0 0) 6) <|
  chk (inb (V31 1080 o0 0) 6) <|
  lt (sv V31 5000 0 (V31 1080 o0 0).toNatClampNeg ((V31 5000 0 (V31 1080 o0 0).toNatClampNeg) + 1)) fun V34 =>
  lt (f_X12_reg (V34 1080 o0 0) 2) fun v35 =>
  chk (inb v35 600) <|
  lt (V34 2400 0 (v35).toNatClampNeg) fun v37 =>
  chk (inb (V34 1080 o0 0) 6) <|
  bnd (f_X12_wipe o0 (V34 5600 0 (V34 1080 o0 0).toNatClampNeg) v37 V34) fun p39 =>
  lt (x1 / 16) fun v40 =>
  lt ((8 * v40) + (x1 - x1 / 16 * 16)) fun v41 =>
  jn (fun V44 =>
  chk (inb v41 64) <|
  lt (f_X12_pcc o0 V44) fun v46 =>
  bnd (f_X12_code o0 v40 (V44 4500 0 (v41).toNatClampNeg) v46 V44) fun p47 =>
  chk (inb v41 64) <|
  jn (fun v49 =>
  chk (inb (p47 1080 o0 0) 6) <|
  lt (sv p47 5200 0 (p47 1080 o0 0).toNatClampNeg (b2i v49)) fun V53 =>
  chk (inb (V53 1080 o0 0) 6) <|
  lt (sv V53 4900 0 (V53 1080 o0 0).toNatClampNeg v40) fun V55 =>
  chk (inb (V55 1080 o0 0) 6) <|
  lt (sv V55 5800 0 (V55 1080 o0 0).toNatClampNeg v37) fun V57 =>
  lt (f_X12_reg (V57 1080 o0 0) 1) fun v58 =>
  bnd (f_X12_make o0 v58 0 0 0 0 5 true V57) fun p59 =>
  lt (f_X12_reg (p59 1080 o0 0) 2) fun v60 =>
  bnd (f_X12_stack o0 (p59 1080 o0 0) v37 v60 p59) fun p61 =>
  lt (f_X12_reg (p61 1080 o0 0) 3) fun v62 =>
  bnd (f_X12_globals o0 v40 v62 p61) fun p63 =>
  some p63) fun k50 =>
  if (p47 4600 0 (v41).toNatClampNeg) = 1 then (chk (inb (p47 1080 o0 0) 6) <|
  k50 (i2b (p47 5200 0 (p47 1080 o0 0).toNatClampNeg))) else (chk (inb v41 64) <|
  if (p47 4600 0 (v41).toNatClampNeg) = 3 then (k50 true) else (k50 false))) fun k42 =>
  f_X12_call_L309 o0 k42 FU 0 p39)
def f_X12_empties_L2 (o0 : Nat) (k1 : HV → Option (HV)) : Nat → Int32 → HV → Option (HV)
  | 0, _, _ => none
  | n6 + 1, v4, V5 =>
  if 16 ≤ v4 then (k1 V5) else (jn (fun V9 =>
  lt (v4 + 1) fun v12 =>
  f_X12_empties_L2 o0 k1 n6 v12 V9) fun k10 =>
  if v4 = 10 then (k10 V5) else (if v4 = 11 then (k10 V5) else (lt (f_X12_reg (V5 1080 o0 0) v4) fun v15 =>
  bnd (f_X12_nothing o0 v15 V5) fun p16 =>
  k10 p16)))
def f_X12_empties (o0 : Nat) (V : HV) : Option (HV) :=
  jn (fun V3 =>
  some V3) fun k1 =>
  f_X12_empties_L2 o0 k1 FU 0 V
def f_X12_returns_L191 (o0 : Nat) (v7 : Int32) (k24 : HV → Option (HV)) : Nat → Int32 → HV → Option (HV)
  | 0, _, _ => none
  | n52 + 1, v50, V51 =>
  if 5 ≤ v50 then (k24 V51) else (lt (f_X12_frame (V51 1080 o0 0) v7 v50) fun v55 =>
  bnd (f_X12_nothing o0 v55 V51) fun p56 =>
  lt (v50 + 1) fun v57 =>
  f_X12_returns_L191 o0 v7 k24 n52 v57 p56)
def f_X12_returns_L34 (o0 : Nat) (k62 : HV → Option (HV)) : Nat → Int32 → HV → Option (HV)
  | 0, _, _ => none
  | n67 + 1, v65, V66 =>
  if 16 < v65 then (k62 V66) else (lt (f_X12_reg (V66 1080 o0 0) v65) fun v70 =>
  bnd (f_X12_nothing o0 v70 V66) fun p71 =>
  lt (v65 + 1) fun v72 =>
  f_X12_returns_L34 o0 k62 n67 v72 p71)
def f_X12_returns (o0 : Nat) (V : HV) : Option (HV) :=
  chk (inb (V 1080 o0 0) 6) <|
  if (V 5000 0 (V 1080 o0 0).toNatClampNeg) = 0 then (chk (inb (V 1080 o0 0) 6) <|
  lt (sv V 4700 0 (V 1080 o0 0).toNatClampNeg 3) fun V59 =>
  chk (inb (V59 1080 o0 0) 6) <|
  lt (sv V59 4800 0 (V59 1080 o0 0).toNatClampNeg (-1)) fun V61 =>
  jn (fun V64 =>
  some V64) fun k62 =>
  f_X12_returns_L34 o0 k62 FU 0 V61) else (chk (inb (V 1080 o0 0) 6) <|
  chk (inb (V 1080 o0 0) 6) <|
  lt (sv V 5000 0 (V 1080 o0 0).toNatClampNeg ((V 5000 0 (V 1080 o0 0).toNatClampNeg) - 1)) fun V5 =>
  chk (inb (V5 1080 o0 0) 6) <|
  lt (V5 5000 0 (V5 1080 o0 0).toNatClampNeg) fun v7 =>
  bnd (f_X12_empties o0 V5) fun p8 =>
  lt (f_X12_frame (p8 1080 o0 0) v7 0) fun v9 =>
  lt (f_X12_pcc o0 p8) fun v10 =>
  bnd (f_X12_copy o0 v9 v10 p8) fun p11 =>
  lt (f_X12_frame (p11 1080 o0 0) v7 1) fun v12 =>
  lt (f_X12_reg (p11 1080 o0 0) 2) fun v13 =>
  bnd (f_X12_copy o0 v12 v13 p11) fun p14 =>
  lt (f_X12_frame (p14 1080 o0 0) v7 2) fun v15 =>
  lt (f_X12_reg (p14 1080 o0 0) 3) fun v16 =>
  bnd (f_X12_copy o0 v15 v16 p14) fun p17 =>
  lt (f_X12_frame (p17 1080 o0 0) v7 3) fun v18 =>
  lt (f_X12_reg (p17 1080 o0 0) 8) fun v19 =>
  bnd (f_X12_copy o0 v18 v19 p17) fun p20 =>
  lt (f_X12_frame (p20 1080 o0 0) v7 4) fun v21 =>
  lt (f_X12_reg (p20 1080 o0 0) 9) fun v22 =>
  bnd (f_X12_copy o0 v21 v22 p20) fun p23 =>
  jn (fun V26 =>
  lt (f_X12_pcc o0 V26) fun v27 =>
  bnd (f_X12_filter o0 v27 V26) fun p28 =>
  lt (f_X12_reg (p28 1080 o0 0) 2) fun v29 =>
  bnd (f_X12_filter o0 v29 p28) fun p30 =>
  lt (f_X12_reg (p30 1080 o0 0) 3) fun v31 =>
  bnd (f_X12_filter o0 v31 p30) fun p32 =>
  lt (f_X12_reg (p32 1080 o0 0) 8) fun v33 =>
  bnd (f_X12_filter o0 v33 p32) fun p34 =>
  lt (f_X12_reg (p34 1080 o0 0) 9) fun v35 =>
  bnd (f_X12_filter o0 v35 p34) fun p36 =>
  chk (inb ((16 * (p36 1080 o0 0)) + v7) 96) <|
  chk (inb (p36 1080 o0 0) 6) <|
  lt (sv p36 4900 0 (p36 1080 o0 0).toNatClampNeg (p36 6400 0 ((16 * (p36 1080 o0 0)) + v7).toNatClampNeg)) fun V39 =>
  chk (inb ((16 * (V39 1080 o0 0)) + v7) 96) <|
  chk (inb (V39 1080 o0 0) 6) <|
  lt (sv V39 5200 0 (V39 1080 o0 0).toNatClampNeg (b2i (i2b (V39 6500 0 ((16 * (V39 1080 o0 0)) + v7).toNatClampNeg)))) fun V42 =>
  chk (inb ((16 * (V42 1080 o0 0)) + v7) 96) <|
  chk (inb (V42 1080 o0 0) 6) <|
  lt (sv V42 5800 0 (V42 1080 o0 0).toNatClampNeg (V42 6600 0 ((16 * (V42 1080 o0 0)) + v7).toNatClampNeg)) fun V45 =>
  chk (inb (V45 1080 o0 0) 6) <|
  lt (f_X12_reg (V45 1080 o0 0) 2) fun v47 =>
  chk (inb v47 600) <|
  bnd (f_X12_wipe o0 (V45 5600 0 (V45 1080 o0 0).toNatClampNeg) (V45 2400 0 (v47).toNatClampNeg) V45) fun p49 =>
  some p49) fun k24 =>
  f_X12_returns_L191 o0 v7 k24 FU 0 p23)
def f_X12_takes_L73 (v5 : Int32) (k9 : HV → Option (Int32 × HV)) : Nat → Int32 → HV → Option (Int32 × HV)
  | 0, _, _ => none
  | n24 + 1, v22, V23 =>
  if v22 ≤ v5 then (k9 V23) else (chk (inb (v22 - 1) 2049) <|
  chk (inb v22 2049) <|
  lt (sv V23 7600 0 (v22).toNatClampNeg (V23 7600 0 (v22 - 1).toNatClampNeg)) fun V29 =>
  chk (inb (v22 - 1) 2049) <|
  chk (inb v22 2049) <|
  lt (sv V29 7700 0 (v22).toNatClampNeg (V29 7700 0 (v22 - 1).toNatClampNeg)) fun V32 =>
  chk (inb (v22 - 1) 2049) <|
  chk (inb v22 2049) <|
  lt (sv V32 7800 0 (v22).toNatClampNeg (b2i (i2b (V32 7800 0 (v22 - 1).toNatClampNeg)))) fun V35 =>
  chk (inb (v22 - 1) 2049) <|
  chk (inb v22 2049) <|
  lt (sv V35 7900 0 (v22).toNatClampNeg (b2i (i2b (V35 7900 0 (v22 - 1).toNatClampNeg)))) fun V38 =>
  lt (v22 + (-1)) fun v39 =>
  f_X12_takes_L73 v5 k9 n24 v39 V38)
def f_X12_takes_L7 (o0 : Nat) (x1 : Int32) (V : HV) (k2 : Int32 → Int32 → Option (Int32 × HV)) : Nat → Int32 → Int32 → Option (Int32 × HV)
  | 0, _, _ => none
  | n44 + 1, v42, v43 =>
  if (V 1055 o0 0) ≤ v43 then (k2 v42 v43) else (chk (inb v43 2049) <|
  if x1 ≤ ((V 7600 0 (v43).toNatClampNeg) - v42) then (k2 v42 v43) else (chk (inb v43 2049) <|
  chk (inb v43 2049) <|
  lt ((V 7600 0 (v43).toNatClampNeg) + (V 7700 0 (v43).toNatClampNeg)) fun v51 =>
  lt (v43 + 1) fun v52 =>
  f_X12_takes_L7 o0 x1 V k2 n44 v51 v52))
def f_X12_takes (o0 : Nat) (x1 : Int32) (V : HV) : Option (Int32 × HV) :=
  lt (V 1054 o0 0) fun v1 =>
  jn (fun v4 v5 =>
  jn (lt (V 1055 o0 0) fun v8 =>
  jn (fun V11 =>
  lt (sv V11 1055 o0 0 ((V11 1055 o0 0) + 1)) fun V12 =>
  chk (inb v5 2049) <|
  lt (sv V12 7600 0 (v5).toNatClampNeg v4) fun V14 =>
  chk (inb v5 2049) <|
  lt (sv V14 7700 0 (v5).toNatClampNeg x1) fun V16 =>
  chk (inb v5 2049) <|
  lt (sv V16 7800 0 (v5).toNatClampNeg (b2i false)) fun V18 =>
  chk (inb v5 2049) <|
  lt (sv V18 7900 0 (v5).toNatClampNeg (b2i false)) fun V20 =>
  bnd (f_X12_wipe o0 v4 (v4 + x1) V20) fun p21 =>
  some (v4, p21)) fun k9 =>
  f_X12_takes_L73 v5 k9 FU v8 V) fun k6 =>
  if v5 = (V 1055 o0 0) then (if x1 ≤ ((V 1000 o0 0) - v4) then (k6) else (some ((-1), V))) else (k6)) fun k2 =>
  f_X12_takes_L7 o0 x1 V k2 FU v1 0
def f_X12_gets (o0 : Nat) (x1 : Int32) (x2 : Int32) (V : HV) : Option (Bool × HV) :=
  bnd (f_X12_takes o0 x2 V) fun p1 =>
  lt p1.1 fun v2 =>
  if v2 = (-1) then (some (false, p1.2)) else (lt (f_X12_reg x1 10) fun v4 =>
  bnd (f_X12_make o0 v4 v2 v2 (v2 + x2) 91 0 true p1.2) fun p5 =>
  some (true, p5))
def f_X12_anyFreed_L4 (o0 : Nat) (V : HV) (k1 : Bool → Option (Bool)) : Nat → Bool → Int32 → Option (Bool)
  | 0, _, _ => none
  | n6 + 1, v4, v5 =>
  if (V 1055 o0 0) ≤ v5 then (k1 v4) else (jn (fun v9 =>
  lt (v5 + 1) fun v12 =>
  f_X12_anyFreed_L4 o0 V k1 n6 v9 v12) fun k10 =>
  jn (k10 true) fun k13 =>
  if v4 = true then (k13) else (chk (inb v5 2049) <|
  if (i2b (V 7800 0 (v5).toNatClampNeg)) = true then (k13) else (k10 false)))
def f_X12_anyFreed (o0 : Nat) (V : HV) : Option (Bool) :=
  jn (fun v3 =>
  some v3) fun k1 =>
  f_X12_anyFreed_L4 o0 V k1 FU false 0
def f_X12_alloc (o0 : Nat) (x1 : Int32) (V : HV) : Option (HV) :=
  if x1 < 1 then (some V) else (if x1 ≤ ((V 1000 o0 0) - (V 1054 o0 0)) then (lt (((x1 + 15) / 16) * 16) fun v3 =>
  bnd (f_X12_gets o0 (V 1080 o0 0) v3 V) fun p4 =>
  if p4.1 = true then (some p4.2) else (bnd (f_X12_anyFreed o0 p4.2) fun p6 =>
  if p6 = true then (lt (if (i2b (p4.2 1060 o0 0)) = true then (true) else (if (p4.2 1061 o0 0) = (-1) then (true) else (false)) : Bool) fun v8 =>
  lt (sv p4.2 1060 o0 0 (b2i v8)) fun V10 =>
  chk (inb (V10 1080 o0 0) 6) <|
  lt (sv V10 6300 0 (V10 1080 o0 0).toNatClampNeg v3) fun V12 =>
  chk (inb (V12 1080 o0 0) 6) <|
  lt (sv V12 4700 0 (V12 1080 o0 0).toNatClampNeg 1) fun V14 =>
  chk (inb (V14 1080 o0 0) 6) <|
  lt (sv V14 4800 0 (V14 1080 o0 0).toNatClampNeg (-1)) fun V16 =>
  some V16) else (some p4.2))) else (some V))
def f_X12_free_L108 (x1 : Int32) (k16 : HV → Option (Bool × HV)) : Nat → Int32 → HV → Option (Bool × HV)
  | 0, _, _ => none
  | n21 + 1, v19, V20 =>
  chk (inb x1 600) <|
  if (V20 2600 0 (x1).toNatClampNeg) ≤ v19 then (k16 V20) else (chk (inb (v19 / 16) 2048) <|
  lt (sv V20 2300 0 (v19 / 16).toNatClampNeg (b2i true)) fun V26 =>
  lt (v19 + 16) fun v27 =>
  f_X12_free_L108 x1 k16 n21 v27 V26)
def f_X12_free_L33 (o0 : Nat) (x1 : Int32) (V : HV) (k7 : Int32 → Option (Bool × HV)) : Nat → Int32 → Option (Bool × HV)
  | 0, _ => none
  | n29 + 1, v28 =>
  if (V 1055 o0 0) ≤ v28 then (some (false, V)) else (chk (inb v28 2049) <|
  jn (lt (v28 + 1) fun v35 =>
  f_X12_free_L33 o0 x1 V k7 n29 v35) fun k33 =>
  if (i2b (V 7800 0 (v28).toNatClampNeg)) = true then (k33) else (chk (inb v28 2049) <|
  chk (inb x1 600) <|
  if (V 7600 0 (v28).toNatClampNeg) = (V 2500 0 (x1).toNatClampNeg) then (chk (inb v28 2049) <|
  chk (inb v28 2049) <|
  chk (inb x1 600) <|
  if ((V 7600 0 (v28).toNatClampNeg) + (V 7700 0 (v28).toNatClampNeg)) = (V 2600 0 (x1).toNatClampNeg) then (k7 v28) else (k33)) else (k33)))
def f_X12_free (o0 : Nat) (x1 : Int32) (V : HV) : Option (Bool × HV) :=
  chk (inb x1 600) <|
  if (i2b (V 2900 0 (x1).toNatClampNeg)) = true then (chk (inb x1 600) <|
  if (V 2800 0 (x1).toNatClampNeg) = 0 then (chk (inb x1 600) <|
  if ((V 2700 0 (x1).toNatClampNeg) &&& 2) = 0 then (some (false, V)) else (jn (fun v9 =>
  chk (inb v9 2049) <|
  lt (sv V 7800 0 (v9).toNatClampNeg (b2i true)) fun V11 =>
  chk (inb v9 2049) <|
  lt (sv V11 7900 0 (v9).toNatClampNeg (b2i false)) fun V13 =>
  chk (inb x1 600) <|
  lt (V13 2500 0 (x1).toNatClampNeg) fun v15 =>
  jn (fun V18 =>
  some (true, V18)) fun k16 =>
  f_X12_free_L108 x1 k16 FU v15 V13) fun k7 =>
  f_X12_free_L33 o0 x1 V k7 FU 0)) else (some (false, V))) else (some (false, V))
def f_X12_answers (o0 : Nat) (x1 : Int32) (V : HV) : Option (HV) :=
  lt (f_X12_reg (V 1080 o0 0) 10) fun v1 =>
  bnd (f_X12_number o0 v1 x1 V) fun p2 =>
  some p2
def f_X12_sleeps (o0 : Nat) (x1 : Int32) (V : HV) : Option (HV) :=
  chk (inb (V 1080 o0 0) 6) <|
  lt (sv V 4700 0 (V 1080 o0 0).toNatClampNeg 1) fun V2 =>
  chk (inb (V2 1080 o0 0) 6) <|
  lt (sv V2 4800 0 (V2 1080 o0 0).toNatClampNeg x1) fun V4 =>
  some V4
def f_X12_isWord (o0 : Nat) (x1 : Int32) (x2 : Int32) (V : HV) : Option (Bool) :=
  chk (inb x1 600) <|
  bnd (f_X12_refuses o0 x1 x2 (V 2400 0 (x1).toNatClampNeg) 4 V) fun p2 =>
  if p2 = 0 then (chk (inb x1 600) <|
  lt (f_X12_isDevice o0 (V 2400 0 (x1).toNatClampNeg)) fun v5 =>
  if v5 = true then (some false) else (some true)) else (some false)
def f_X12_waits (o0 : Nat) (x1 : Int32) (x2 : Int32) (x3 : Int32) (V : HV) : Option (HV) :=
  bnd (f_X12_isWord o0 x1 1 V) fun p1 =>
  lt (if p1 = true then (if x3 < 0 then (false) else (if 10000 < x3 then (false) else (true))) else (false) : Bool) fun v2 =>
  jn (lt (if v2 = true then (1) else ((-1)) : Int32) fun v6 =>
  bnd (f_X12_answers o0 v6 V) fun p8 =>
  some p8) fun k4 =>
  if v2 = true then (chk (inb x1 600) <|
  bnd (f_X12_get o0 (V 2400 0 (x1).toNatClampNeg) 4 V) fun p13 =>
  if p13 = x2 then (bnd (f_X12_answers o0 2 V) fun p15 =>
  chk (inb (p15 1080 o0 0) 6) <|
  lt (sv p15 4700 0 (p15 1080 o0 0).toNatClampNeg 2) fun V17 =>
  chk (inb (V17 1080 o0 0) 6) <|
  lt (sv V17 4800 0 (V17 1080 o0 0).toNatClampNeg ((V17 1047 o0 0) + x3)) fun V19 =>
  chk (inb x1 600) <|
  chk (inb (V19 1080 o0 0) 6) <|
  lt (sv V19 6100 0 (V19 1080 o0 0).toNatClampNeg (V19 2400 0 (x1).toNatClampNeg)) fun V22 =>
  chk (inb (V22 1080 o0 0) 6) <|
  lt (sv V22 6200 0 (V22 1080 o0 0).toNatClampNeg (V22 1053 o0 0)) fun V24 =>
  lt (sv V24 1053 o0 0 ((V24 1053 o0 0) + 1)) fun V25 =>
  some V25) else (k4)) else (k4)
def f_X12_wakes_L25 (o0 : Nat) (x1 : Int32) (V7 : HV) (k12 : Int32 → Option (Int32 × HV)) : Nat → Int32 → Int32 → Option (Int32 × HV)
  | 0, _, _ => none
  | n29 + 1, v27, v28 =>
  if (V7 1019 o0 0) ≤ v28 then (k12 v27) else (chk (inb v28 6) <|
  jn (fun v33 =>
  jn (fun v36 =>
  lt (v28 + 1) fun v39 =>
  f_X12_wakes_L25 o0 x1 V7 k12 n29 v36 v39) fun k37 =>
  if v33 = true then (jn (k37 v28) fun k41 =>
  if v27 = (-1) then (k41) else (chk (inb v28 6) <|
  chk (inb v27 6) <|
  if (V7 5500 0 (v27).toNatClampNeg) < (V7 5500 0 (v28).toNatClampNeg) then (k41) else (chk (inb v28 6) <|
  chk (inb v27 6) <|
  if (V7 5500 0 (v28).toNatClampNeg) = (V7 5500 0 (v27).toNatClampNeg) then (chk (inb v28 6) <|
  chk (inb v27 6) <|
  if (V7 6200 0 (v27).toNatClampNeg) ≤ (V7 6200 0 (v28).toNatClampNeg) then (k37 v27) else (k41)) else (k37 v27)))) else (k37 v27)) fun k34 =>
  jn (k34 false) fun k53 =>
  if (V7 4700 0 (v28).toNatClampNeg) = 2 then (chk (inb v28 6) <|
  if (V7 6100 0 (v28).toNatClampNeg) = x1 then (k34 true) else (k53)) else (k53))
def f_X12_wakes_L6 (o0 : Nat) (x1 : Int32) (x2 : Int64) (k1 : Int32 → HV → Option (Int32 × HV)) : Nat → Int32 → Bool → HV → Option (Int32 × HV)
  | 0, _, _, _ => none
  | n8 + 1, v5, v6, V7 =>
  if v6 = true then (if 0 ≤ (lg_cmp v5.toInt64 x2) then (k1 v5 V7) else (jn (fun v14 =>
  lt (if v14 = (-1) then (false) else (true) : Bool) fun v15 =>
  if v15 = true then (chk (inb v14 6) <|
  lt (sv V7 4700 0 (v14).toNatClampNeg 0) fun V19 =>
  chk (inb v14 6) <|
  lt (sv V19 4800 0 (v14).toNatClampNeg (-1)) fun V21 =>
  lt (f_X12_reg v14 10) fun v22 =>
  bnd (f_X12_number o0 v22 0 V21) fun p23 =>
  lt (v5 + 1) fun v24 =>
  f_X12_wakes_L6 o0 x1 x2 k1 n8 v24 v15 p23) else (f_X12_wakes_L6 o0 x1 x2 k1 n8 v5 v15 V7)) fun k12 =>
  f_X12_wakes_L25 o0 x1 V7 k12 FU (-1) 0)) else (k1 v5 V7)
def f_X12_wakes (o0 : Nat) (x1 : Int32) (x2 : Int64) (V : HV) : Option (Int32 × HV) :=
  jn (fun v3 V4 =>
  some (v3, V4)) fun k1 =>
  f_X12_wakes_L6 o0 x1 x2 k1 FU 0 true V
def f_X12_freeBytes_L12 (o0 : Nat) (V : HV) (k2 : Int32 → Option (Int32)) : Nat → Int32 → Int32 → Option (Int32)
  | 0, _, _ => none
  | n7 + 1, v5, v6 =>
  if (V 1055 o0 0) ≤ v6 then (k2 v5) else (chk (inb v6 2049) <|
  lt (v5 - (V 7700 0 (v6).toNatClampNeg)) fun v11 =>
  lt (v6 + 1) fun v12 =>
  f_X12_freeBytes_L12 o0 V k2 n7 v11 v12)
def f_X12_freeBytes (o0 : Nat) (V : HV) : Option (Int32) :=
  lt ((V 1000 o0 0) - (V 1054 o0 0)) fun v1 =>
  jn (fun v4 =>
  some v4) fun k2 =>
  f_X12_freeBytes_L12 o0 V k2 FU v1 0
def f_X12_serves (o0 : Nat) (x1 : Int32) (x2 : Int32) (x3 : Int32) (x4 : Int32) (V : HV) : Option (HV) :=
  if x1 = 0 then (bnd (f_X12_alloc o0 x2 V) fun p2 =>
  some p2) else
  if x1 = 1 then (bnd (f_X12_free o0 584 V) fun p4 =>
  lt (if p4.1 = true then (0) else ((-1)) : Int32) fun v5 =>
  bnd (f_X12_answers o0 v5 p4.2) fun p7 =>
  some p7) else
  if x1 = 2 then (bnd (f_X12_answers o0 0 V) fun p11 =>
  lt (sv p11 1048 o0 0 (-1)) fun V12 =>
  some V12) else
  if x1 = 3 then (lt (if x2 < 1 then ((-1)) else (if 10000 < x2 then ((-1)) else (0)) : Int32) fun v14 =>
  bnd (f_X12_answers o0 v14 V) fun p16 =>
  if x2 < 1 then (some p16) else (if 10000 < x2 then (some p16) else (bnd (f_X12_sleeps o0 ((p16 1047 o0 0) + x2) p16) fun p19 =>
  some p19))) else
  if x1 = 4 then (bnd (f_X12_waits o0 584 x3 x4 V) fun p24 =>
  some p24) else
  if x1 = 5 then (bnd (f_X12_isWord o0 584 2 V) fun p26 =>
  jn (fun v27 V28 =>
  bnd (f_X12_answers o0 v27 V28) fun p31 =>
  some p31) fun k29 =>
  if p26 = true then (chk (inb (584 : Int32) 600) <|
  lt (f_X12_plain x3) fun v34 =>
  bnd (f_X12_wakes o0 (V 2400 0 ((584 : Int32)).toNatClampNeg) v34 V) fun p35 =>
  k29 p35.1 p35.2) else (k29 (-1) V)) else
  if x1 = 6 then (lt (sv V 1060 o0 0 (b2i true)) fun V37 =>
  bnd (f_X12_answers o0 0 V37) fun p38 =>
  some p38) else
  if x1 = 7 then (bnd (f_X12_answers o0 (V 1080 o0 0) V) fun p40 =>
  some p40) else
  bnd (f_X12_freeBytes o0 V) fun p41 =>
  bnd (f_X12_answers o0 p41 V) fun p42 =>
  some p42
def f_X12_service_L75 (o0 : Nat) (k13 : HV → Option (HV)) : Nat → Int32 → HV → Option (HV)
  | 0, _, _ => none
  | n29 + 1, v27, V28 =>
  if 16 ≤ v27 then (k13 V28) else (lt (if v27 = 2 then (true) else (if v27 = 3 then (true) else (if v27 = 8 then (true) else (if v27 = 9 then (true) else (false)))) : Bool) fun v32 =>
  jn (fun V34 =>
  lt (v27 + 1) fun v37 =>
  f_X12_service_L75 o0 k13 n29 v37 V34) fun k35 =>
  if v32 = true then (k35 V28) else (lt (f_X12_reg (V28 1080 o0 0) v27) fun v39 =>
  bnd (f_X12_nothing o0 v39 V28) fun p40 =>
  k35 p40))
def f_X12_service (o0 : Nat) (x1 : Int32) (V : HV) : Option (HV) :=
  lt (sv V 1051 o0 0 ((V 1051 o0 0) + 1)) fun V1 =>
  lt (f_X12_reg (V1 1080 o0 0) 10) fun v2 =>
  chk (inb v2 600) <|
  lt (V1 2400 0 (v2).toNatClampNeg) fun v4 =>
  lt (f_X12_reg (V1 1080 o0 0) 11) fun v5 =>
  chk (inb v5 600) <|
  lt (V1 2400 0 (v5).toNatClampNeg) fun v7 =>
  lt (f_X12_reg (V1 1080 o0 0) 12) fun v8 =>
  chk (inb v8 600) <|
  lt (V1 2400 0 (v8).toNatClampNeg) fun v10 =>
  lt (f_X12_reg (V1 1080 o0 0) 10) fun v11 =>
  bnd (f_X12_copy o0 v11 584 V1) fun p12 =>
  jn (fun V15 =>
  bnd (f_X12_serves o0 x1 v4 v7 v10 V15) fun p16 =>
  lt (f_X12_pcc o0 p16) fun v17 =>
  bnd (f_X12_filter o0 v17 p16) fun p18 =>
  lt (f_X12_reg (p18 1080 o0 0) 2) fun v19 =>
  bnd (f_X12_filter o0 v19 p18) fun p20 =>
  lt (f_X12_reg (p20 1080 o0 0) 3) fun v21 =>
  bnd (f_X12_filter o0 v21 p20) fun p22 =>
  lt (f_X12_reg (p22 1080 o0 0) 8) fun v23 =>
  bnd (f_X12_filter o0 v23 p22) fun p24 =>
  lt (f_X12_reg (p24 1080 o0 0) 9) fun v25 =>
  bnd (f_X12_filter o0 v25 p24) fun p26 =>
  some p26) fun k13 =>
  f_X12_service_L75 o0 k13 FU 0 p12
def f_X12_jumps (o0 : Nat) (x1 : Int32) (V : HV) : Option (Int32 × HV) :=
  lt (f_X12_a o0 V) fun v1 =>
  lt (f_X12_reg (V 1080 o0 0) v1) fun v2 =>
  bnd (f_X12_copy o0 v2 583 V) fun p3 =>
  chk (inb v2 600) <|
  lt (p3 2800 0 (v2).toNatClampNeg) fun v5 =>
  chk (inb v2 600) <|
  if (i2b (p3 2900 0 (v2).toNatClampNeg)) = true then (jn (jn (if v5 ≤ 6 then (bnd (f_X12_link o0 p3) fun p13 =>
  jn (lt (f_X12_d o0 p13) fun v16 =>
  bnd (f_X12_comes o0 582 v16 p13) fun p17 =>
  if 4 ≤ v5 then (if v5 = 4 then (chk (inb (583 : Int32) 600) <|
  bnd (f_X12_call o0 (p17 2400 0 ((583 : Int32)).toNatClampNeg) p17) fun p26 =>
  some (0, p26)) else (if v5 = 5 then (bnd (f_X12_returns o0 p17) fun p24 =>
  some (0, p24)) else (bnd (f_X12_goesOn o0 p17) fun p21 =>
  chk (inb (583 : Int32) 600) <|
  bnd (f_X12_service o0 (p21 2400 0 ((583 : Int32)).toNatClampNeg) p21) fun p23 =>
  some (0, p23)))) else (lt (f_X12_pcc o0 p17) fun v27 =>
  bnd (f_X12_copy o0 583 v27 p17) fun p28 =>
  lt (f_X12_pcc o0 p28) fun v29 =>
  chk (inb v29 600) <|
  lt (if v5 = 0 then (x1) else (0) : Int32) fun v31 =>
  chk (inb v29 600) <|
  lt (sv p28 2400 0 (v29).toNatClampNeg ((p28 2400 0 (v29).toNatClampNeg) + v31)) fun V34 =>
  lt (f_X12_pcc o0 V34) fun v35 =>
  chk (inb v35 600) <|
  lt (sv V34 2800 0 (v35).toNatClampNeg 0) fun V37 =>
  jn (fun v38 =>
  chk (inb (V37 1080 o0 0) 6) <|
  lt (sv V37 5200 0 (V37 1080 o0 0).toNatClampNeg (b2i v38)) fun V42 =>
  some (0, V42)) fun k39 =>
  if v5 = 2 then (k39 false) else (jn (k39 true) fun k44 =>
  if v5 = 3 then (k44) else (chk (inb (V37 1080 o0 0) 6) <|
  if (i2b (V37 5200 0 (V37 1080 o0 0).toNatClampNeg)) = true then (k44) else (k39 false))))) fun k14 =>
  if v5 = 4 then (lt (f_X12_d o0 p13) fun v52 =>
  if v52 = 2 then (some (7, p13)) else (bnd (f_X12_isStack o0 p13) fun p54 =>
  if p54 = true then (k14) else (some (7, p13)))) else (k14)) else (some (2, p3))) fun k10 =>
  if v5 = 0 then (k10) else (if x1 = 0 then (k10) else (some (2, p3)))) fun k8 =>
  if v5 = 0 then (chk (inb v2 600) <|
  if ((p3 2700 0 (v2).toNatClampNeg) &&& 4) = 0 then (some (3, p3)) else (k8)) else (k8)) else (some (1, p3))
def f_X12_does (o0 : Nat) (V : HV) : Option (Int32 × HV) :=
  lt (f_X12_pcc o0 V) fun v1 =>
  chk (inb v1 600) <|
  bnd (f_X12_refuses o0 v1 4 (V 2400 0 (v1).toNatClampNeg) 4 V) fun p3 =>
  if p3 = 0 then (chk (inb v1 600) <|
  bnd (f_X12_get o0 (V 2400 0 (v1).toNatClampNeg) 4 V) fun p6 =>
  lt (sv V 1081 o0 0 p6) fun V7 =>
  lt (f_X12_isRight o0 V7) fun v8 =>
  if v8 = true then (lt ((V7 1081 o0 0) >>> ((20 : Int32) &&& 31)) fun v10 =>
  if ((V7 1081 o0 0) &&& 127) = 3 then (lt (f_X12_a o0 V7) fun v12 =>
  bnd (f_X12_value o0 v12 V7) fun p13 =>
  bnd (f_X12_loads o0 (p13 + v10) V7) fun p14 =>
  some (p14.1, p14.2)) else
  if ((V7 1081 o0 0) &&& 127) = 19 then (lt (f_X12_d o0 V7) fun v16 =>
  lt (f_X12_f o0 V7) fun v17 =>
  lt (f_X12_a o0 V7) fun v18 =>
  bnd (f_X12_value o0 v18 V7) fun p19 =>
  lt (f_X12_f o0 V7) fun v20 =>
  lt (if v20 = 1 then ((f_X12_b o0 V7)) else (if (f_X12_f o0 V7) = 5 then ((f_X12_b o0 V7)) else (v10)) : Int32) fun v21 =>
  lt (f_X12_f o0 V7) fun v23 =>
  lt (if v23 = 5 then (if (f_X12_g o0 V7) = 32 then (true) else (false)) else (false) : Bool) fun v24 =>
  lt (f_X12_sums v17 p19 v21 v24) fun v26 =>
  bnd (f_X12_writes o0 v16 v26 V7) fun p27 =>
  bnd (f_X12_goesOn o0 p27) fun p28 =>
  some (0, p28)) else
  if ((V7 1081 o0 0) &&& 127) = 23 then (bnd (f_X12_copy o0 v1 582 V7) fun p36 =>
  chk (inb (582 : Int32) 600) <|
  chk (inb (582 : Int32) 600) <|
  lt (sv p36 2400 0 (582 : Int32).toNatClampNeg ((p36 2400 0 ((582 : Int32)).toNatClampNeg) + ((p36 1081 o0 0) &&& (-4096)))) fun V39 =>
  bnd (f_X12_goesOn o0 V39) fun p40 =>
  lt (f_X12_d o0 p40) fun v41 =>
  bnd (f_X12_comes o0 582 v41 p40) fun p42 =>
  some (0, p42)) else
  if ((V7 1081 o0 0) &&& 127) = 35 then (lt (f_X12_a o0 V7) fun v44 =>
  bnd (f_X12_value o0 v44 V7) fun p45 =>
  lt (f_X12_d o0 V7) fun v46 =>
  bnd (f_X12_stores o0 (p45 + ((((V7 1081 o0 0) >>> ((25 : Int32) &&& 31)) <<< ((5 : Int32) &&& 31)) ||| v46)) V7) fun p47 =>
  some (p47.1, p47.2)) else
  if ((V7 1081 o0 0) &&& 127) = 51 then (lt (f_X12_d o0 V7) fun v49 =>
  lt (f_X12_g o0 V7) fun v50 =>
  jn (fun v51 =>
  bnd (f_X12_writes o0 v49 v51 V7) fun p54 =>
  bnd (f_X12_goesOn o0 p54) fun p55 =>
  some (0, p55)) fun k52 =>
  if v50 = 1 then (lt (f_X12_f o0 V7) fun v78 =>
  lt (f_X12_a o0 V7) fun v79 =>
  bnd (f_X12_value o0 v79 V7) fun p80 =>
  lt (f_X12_b o0 V7) fun v81 =>
  bnd (f_X12_value o0 v81 V7) fun p82 =>
  bnd (f_X12_products v78 p80 p82) fun p83 =>
  k52 p83) else (lt (f_X12_f o0 V7) fun v57 =>
  jn (lt (f_X12_f o0 V7) fun v60 =>
  lt (f_X12_a o0 V7) fun v61 =>
  bnd (f_X12_value o0 v61 V7) fun p62 =>
  lt (f_X12_b o0 V7) fun v63 =>
  bnd (f_X12_value o0 v63 V7) fun p64 =>
  lt (f_X12_g o0 V7) fun v65 =>
  lt (if v65 = 32 then (true) else (false) : Bool) fun v66 =>
  lt (f_X12_sums v60 p62 p64 v66) fun v68 =>
  k52 v68) fun k58 =>
  if v57 = 0 then (lt (f_X12_g o0 V7) fun v72 =>
  if v72 = 32 then (lt (f_X12_a o0 V7) fun v74 =>
  bnd (f_X12_value o0 v74 V7) fun p75 =>
  lt (f_X12_b o0 V7) fun v76 =>
  bnd (f_X12_value o0 v76 V7) fun p77 =>
  k52 (p75 - p77)) else (k58)) else (k58))) else
  if ((V7 1081 o0 0) &&& 127) = 55 then (lt (f_X12_d o0 V7) fun v85 =>
  bnd (f_X12_writes o0 v85 ((V7 1081 o0 0) &&& (-4096)) V7) fun p86 =>
  bnd (f_X12_goesOn o0 p86) fun p87 =>
  some (0, p87)) else
  if ((V7 1081 o0 0) &&& 127) = 91 then (bnd (f_X12_shapes o0 v10 V7) fun p89 =>
  bnd (f_X12_goesOn o0 p89) fun p90 =>
  some (0, p90)) else
  if ((V7 1081 o0 0) &&& 127) = 99 then (lt ((((((V7 1081 o0 0) >>> ((31 : Int32) &&& 31)) <<< ((12 : Int32) &&& 31)) ||| ((((V7 1081 o0 0) >>> ((7 : Int32) &&& 31)) &&& 1) <<< ((11 : Int32) &&& 31))) ||| ((((V7 1081 o0 0) >>> ((25 : Int32) &&& 31)) &&& 63) <<< ((5 : Int32) &&& 31))) ||| ((((V7 1081 o0 0) >>> ((8 : Int32) &&& 31)) &&& 15) <<< ((1 : Int32) &&& 31))) fun v92 =>
  chk (inb v1 600) <|
  lt (f_X12_f o0 V7) fun v94 =>
  lt (f_X12_a o0 V7) fun v95 =>
  bnd (f_X12_value o0 v95 V7) fun p96 =>
  lt (f_X12_b o0 V7) fun v97 =>
  bnd (f_X12_value o0 v97 V7) fun p98 =>
  lt (f_X12_branches v94 p96 p98) fun v99 =>
  lt (if v99 = true then (v92) else (4) : Int32) fun v100 =>
  chk (inb v1 600) <|
  lt (sv V7 2400 0 (v1).toNatClampNeg ((V7 2400 0 (v1).toNatClampNeg) + v100)) fun V103 =>
  some (0, V103)) else
  if ((V7 1081 o0 0) &&& 127) = 111 then (lt ((((((V7 1081 o0 0) >>> ((31 : Int32) &&& 31)) <<< ((20 : Int32) &&& 31)) ||| ((V7 1081 o0 0) &&& 1044480)) ||| ((((V7 1081 o0 0) >>> ((20 : Int32) &&& 31)) &&& 1) <<< ((11 : Int32) &&& 31))) ||| ((((V7 1081 o0 0) >>> ((21 : Int32) &&& 31)) &&& 1023) <<< ((1 : Int32) &&& 31))) fun v107 =>
  bnd (f_X12_link o0 V7) fun p108 =>
  lt (f_X12_d o0 p108) fun v109 =>
  bnd (f_X12_comes o0 582 v109 p108) fun p110 =>
  chk (inb v1 600) <|
  chk (inb v1 600) <|
  lt (sv p110 2400 0 (v1).toNatClampNeg ((p110 2400 0 (v1).toNatClampNeg) + v107)) fun V113 =>
  some (0, V113)) else
  bnd (f_X12_jumps o0 v10 V7) fun p114 =>
  some (p114.1, p114.2)) else (some (6, V7))) else (some (p3, V))
def f_X12_sweep_L405 (o0 : Nat) (k16 : HV → Option (HV)) : Nat → Int32 → HV → Option (HV)
  | 0, _, _ => none
  | n21 + 1, v19, V20 =>
  if (V20 1019 o0 0) ≤ v19 then (k16 V20) else (chk (inb v19 6) <|
  jn (fun V25 =>
  lt (v19 + 1) fun v28 =>
  f_X12_sweep_L405 o0 k16 n21 v28 V25) fun k26 =>
  if (V20 4700 0 (v19).toNatClampNeg) = 1 then (chk (inb v19 6) <|
  if (V20 6300 0 (v19).toNatClampNeg) ≤ 0 then (k26 V20) else (chk (inb v19 6) <|
  bnd (f_X12_gets o0 v19 (V20 6300 0 (v19).toNatClampNeg) V20) fun p33 =>
  jn (fun V34 =>
  chk (inb v19 6) <|
  lt (sv V34 6300 0 (v19).toNatClampNeg 0) fun V38 =>
  chk (inb v19 6) <|
  lt (sv V38 4700 0 (v19).toNatClampNeg 0) fun V40 =>
  k26 V40) fun k35 =>
  if p33.1 = true then (k35 p33.2) else (lt (f_X12_reg v19 10) fun v42 =>
  bnd (f_X12_nothing o0 v42 p33.2) fun p43 =>
  k35 p43))) else (k26 V20))
def f_X12_sweep_L278 (v45 : Int32) (v51 : Bool) (k56 : HV → Option (HV)) : Nat → Int32 → HV → Option (HV)
  | 0, _, _ => none
  | n79 + 1, v77, V78 =>
  if v51 = true then (chk (inb v45 2049) <|
  chk (inb v45 2049) <|
  if ((V78 7600 0 (v45).toNatClampNeg) + (V78 7700 0 (v45).toNatClampNeg)) ≤ v77 then (k56 V78) else (chk (inb (v77 / 16) 2048) <|
  lt (sv V78 2300 0 (v77 / 16).toNatClampNeg (b2i false)) fun V86 =>
  lt (v77 + 16) fun v87 =>
  f_X12_sweep_L278 v45 v51 k56 n79 v87 V86)) else (k56 V78)
def f_X12_sweep_L238 (o0 : Nat) (k9 : Int32 → HV → Option (HV)) : Nat → Int32 → Int32 → HV → Option (HV)
  | 0, _, _, _ => none
  | n47 + 1, v44, v45, V46 =>
  if (V46 1055 o0 0) ≤ v45 then (k9 v44 V46) else (chk (inb v45 2049) <|
  jn (fun v51 =>
  chk (inb v45 2049) <|
  lt (V46 7600 0 (v45).toNatClampNeg) fun v55 =>
  jn (fun V58 =>
  chk (inb v45 2049) <|
  chk (inb v44 2049) <|
  lt (sv V58 7600 0 (v44).toNatClampNeg (V58 7600 0 (v45).toNatClampNeg)) fun V61 =>
  chk (inb v45 2049) <|
  chk (inb v44 2049) <|
  lt (sv V61 7700 0 (v44).toNatClampNeg (V61 7700 0 (v45).toNatClampNeg)) fun V64 =>
  chk (inb v45 2049) <|
  chk (inb v44 2049) <|
  lt (sv V64 7800 0 (v44).toNatClampNeg (b2i (i2b (V64 7800 0 (v45).toNatClampNeg)))) fun V67 =>
  chk (inb v45 2049) <|
  chk (inb v44 2049) <|
  lt (sv V67 7900 0 (v44).toNatClampNeg (b2i (i2b (V67 7900 0 (v45).toNatClampNeg)))) fun V70 =>
  lt (if v51 = true then (false) else (true) : Bool) fun v71 =>
  lt (v44 + (b2i v71)) fun v73 =>
  lt (v45 + 1) fun v74 =>
  f_X12_sweep_L238 o0 k9 n47 v73 v74 V70) fun k56 =>
  f_X12_sweep_L278 v45 v51 k56 FU v55 V46) fun k52 =>
  jn (k52 false) fun k88 =>
  if (i2b (V46 7800 0 (v45).toNatClampNeg)) = true then (chk (inb v45 2049) <|
  if (i2b (V46 7900 0 (v45).toNatClampNeg)) = true then (k52 true) else (k88)) else (k88))
def f_X12_sweep_L216 (o0 : Nat) (k6 : HV → Option (HV)) : Nat → Int32 → HV → Option (HV)
  | 0, _, _ => none
  | n95 + 1, v93, V94 =>
  if 582 ≤ v93 then (k6 V94) else (bnd (f_X12_filter o0 v93 V94) fun p98 =>
  lt (v93 + 1) fun v99 =>
  f_X12_sweep_L216 o0 k6 n95 v99 p98)
def f_X12_sweep_L115 (o0 : Nat) (k2 : HV → Option (HV)) : Nat → Int32 → HV → Option (HV)
  | 0, _, _ => none
  | n102 + 1, v100, V101 =>
  if 4 ≤ v100 then (k2 V101) else (if ((V101 1000 o0 0) / 16) ≤ (V101 1061 o0 0) then (k2 V101) else (bnd (f_X12_getCapability o0 (16 * (V101 1061 o0 0)) 582 V101) fun p106 =>
  chk (inb (582 : Int32) 600) <|
  jn (fun v108 =>
  chk (inb (p106 1061 o0 0) 2048) <|
  lt (sv p106 2200 0 (p106 1061 o0 0).toNatClampNeg (b2i v108)) fun V112 =>
  lt (sv V112 1061 o0 0 ((V112 1061 o0 0) + 1)) fun V113 =>
  lt (v100 + 1) fun v114 =>
  f_X12_sweep_L115 o0 k2 n102 v114 V113) fun k109 =>
  jn (k109 false) fun k115 =>
  if (i2b (p106 2900 0 ((582 : Int32)).toNatClampNeg)) = true then (bnd (f_X12_isGone o0 582 p106) fun p118 =>
  if p118 = true then (k115) else (k109 true)) else (k115)))
def f_X12_sweep_L81 (o0 : Nat) (k131 : HV → Option (HV)) : Nat → Int32 → HV → Option (HV)
  | 0, _, _ => none
  | n136 + 1, v134, V135 =>
  if (V135 1055 o0 0) ≤ v134 then (k131 V135) else (chk (inb v134 2049) <|
  chk (inb v134 2049) <|
  lt (sv V135 7900 0 (v134).toNatClampNeg (b2i (i2b (V135 7800 0 (v134).toNatClampNeg)))) fun V141 =>
  lt (v134 + 1) fun v142 =>
  f_X12_sweep_L81 o0 k131 n136 v142 V141)
def f_X12_sweep_L12 (o0 : Nat) (V : HV) (k120 : Int32 → Option (HV)) : Nat → Int32 → Int32 → Option (HV)
  | 0, _, _ => none
  | n147 + 1, v145, v146 =>
  if (V 1055 o0 0) ≤ v146 then (k120 v145) else (chk (inb v146 2049) <|
  jn (fun v151 =>
  lt (v145 + v151) fun v154 =>
  lt (v146 + 1) fun v155 =>
  f_X12_sweep_L12 o0 V k120 n147 v154 v155) fun k152 =>
  if (i2b (V 7800 0 (v146).toNatClampNeg)) = true then (chk (inb v146 2049) <|
  k152 (V 7700 0 (v146).toNatClampNeg)) else (k152 0))
def f_X12_sweep (o0 : Nat) (V : HV) : Option (HV) :=
  if (V 1061 o0 0) = (-1) then (jn (fun v122 =>
  jn (fun V123 =>
  lt (sv V123 1060 o0 0 (b2i false)) fun V126 =>
  some V126) fun k124 =>
  if v122 ≤ 0 then (k124 V) else (jn (lt (sv V 1061 o0 0 0) fun V130 =>
  jn (fun V133 =>
  k124 V133) fun k131 =>
  f_X12_sweep_L81 o0 k131 FU 0 V130) fun k128 =>
  if (i2b (V 1060 o0 0)) = true then (k128) else (if (4 * v122) < ((V 1000 o0 0) - (V 1054 o0 0)) then (k124 V) else (k128)))) fun k120 =>
  f_X12_sweep_L12 o0 V k120 FU 0 0) else (jn (fun V4 =>
  if ((V4 1000 o0 0) / 16) ≤ (V4 1061 o0 0) then (jn (fun V8 =>
  jn (fun v11 V12 =>
  lt (sv V12 1055 o0 0 v11) fun V13 =>
  lt (sv V13 1061 o0 0 (-1)) fun V14 =>
  lt (sv V14 1062 o0 0 ((V14 1062 o0 0) + 1)) fun V15 =>
  jn (fun V18 =>
  some V18) fun k16 =>
  f_X12_sweep_L405 o0 k16 FU 0 V15) fun k9 =>
  f_X12_sweep_L238 o0 k9 FU 0 0 V8) fun k6 =>
  f_X12_sweep_L216 o0 k6 FU 0 V4) else (some V4)) fun k2 =>
  f_X12_sweep_L115 o0 k2 FU 0 V)
def f_X12_areEnded_L4 (o0 : Nat) (V : HV) (k1 : Bool → Option (Bool)) : Nat → Bool → Int32 → Option (Bool)
  | 0, _, _ => none
  | n6 + 1, v4, v5 =>
  if (V 1019 o0 0) ≤ v5 then (k1 v4) else (jn (fun v9 =>
  lt (v5 + 1) fun v12 =>
  f_X12_areEnded_L4 o0 V k1 n6 v9 v12) fun k10 =>
  jn (k10 false) fun k13 =>
  if v4 = true then (chk (inb v5 6) <|
  if (V 4700 0 (v5).toNatClampNeg) = 3 then (k10 true) else (k13)) else (k13))
def f_X12_areEnded (o0 : Nat) (V : HV) : Option (Bool) :=
  jn (fun v3 =>
  some v3) fun k1 =>
  f_X12_areEnded_L4 o0 V k1 FU true 0
def f_X12_isAhead (o0 : Nat) (x1 : Int32) (x2 : Int32) (V : HV) : Option (Bool) :=
  jn (some true) fun k1 =>
  if x2 = (-1) then (k1) else (chk (inb x1 6) <|
  chk (inb x2 6) <|
  if (V 5500 0 (x2).toNatClampNeg) < (V 5500 0 (x1).toNatClampNeg) then (k1) else (chk (inb x1 6) <|
  chk (inb x2 6) <|
  if (V 5500 0 (x1).toNatClampNeg) = (V 5500 0 (x2).toNatClampNeg) then (chk (inb x1 6) <|
  chk (inb x2 6) <|
  if (V 5900 0 (x2).toNatClampNeg) ≤ (V 5900 0 (x1).toNatClampNeg) then (some false) else (k1)) else (some false)))
def f_X12_chooses_L249 (o0 : Nat) (v10 : Int32) (k20 : HV → Option (HV)) : Nat → Int32 → HV → Option (HV)
  | 0, _, _ => none
  | n25 + 1, v23, V24 =>
  if 16 < v23 then (k20 V24) else (lt (f_X12_reg v10 v23) fun v28 =>
  bnd (f_X12_filter o0 v28 V24) fun p29 =>
  lt (v23 + 1) fun v30 =>
  f_X12_chooses_L249 o0 v10 k20 n25 v30 p29)
def f_X12_chooses_L162 (o0 : Nat) (V : HV) (k8 : Int32 → Option (HV)) : Nat → Int32 → Int32 → Option (HV)
  | 0, _, _ => none
  | n36 + 1, v34, v35 =>
  if (V 1019 o0 0) ≤ v35 then (k8 v34) else (chk (inb v35 6) <|
  jn (fun v40 =>
  lt (v35 + 1) fun v43 =>
  f_X12_chooses_L162 o0 V k8 n36 v40 v43) fun k41 =>
  if (V 4700 0 (v35).toNatClampNeg) = 0 then (bnd (f_X12_isAhead o0 v35 v34 V) fun p45 =>
  if p45 = true then (k41 v35) else (k41 v34)) else (k41 v34))
def f_X12_chooses_L28 (o0 : Nat) (V : HV) (k4 : Bool → Option (HV)) : Nat → Bool → Int32 → Option (HV)
  | 0, _, _ => none
  | n49 + 1, v47, v48 =>
  if (V 1019 o0 0) ≤ v48 then (k4 v47) else (if v47 = true then (jn (fun v53 =>
  jn (fun v56 =>
  lt (if v56 = true then (false) else (true) : Bool) fun v59 =>
  lt (v48 + 1) fun v61 =>
  f_X12_chooses_L28 o0 V k4 n49 v59 v61) fun k57 =>
  jn (k57 false) fun k64 =>
  if v53 = true then (chk (inb (V 1048 o0 0) 6) <|
  if (i2b (V 5200 0 (V 1048 o0 0).toNatClampNeg)) = true then (chk (inb v48 6) <|
  chk (inb (V 1048 o0 0) 6) <|
  jn (k57 true) fun k71 =>
  if (V 5500 0 (V 1048 o0 0).toNatClampNeg) < (V 5500 0 (v48).toNatClampNeg) then (k71) else (chk (inb v48 6) <|
  chk (inb (V 1048 o0 0) 6) <|
  if (V 5500 0 (v48).toNatClampNeg) = (V 5500 0 (V 1048 o0 0).toNatClampNeg) then (chk (inb (V 1048 o0 0) 6) <|
  if (V 6000 0 (V 1048 o0 0).toNatClampNeg) < 50 then (k64) else (k71)) else (k64))) else (k64)) else (k64)) fun k54 =>
  jn (k54 false) fun k79 =>
  if v48 = (V 1048 o0 0) then (k79) else (chk (inb v48 6) <|
  if (V 4700 0 (v48).toNatClampNeg) = 0 then (k54 true) else (k79))) else (k4 v47))
def f_X12_chooses (o0 : Nat) (V : HV) : Option (HV) :=
  jn (fun v1 =>
  jn (fun v6 =>
  if v6 = true then (some V) else (jn (fun v10 =>
  if v10 = (-1) then (lt (sv V 1048 o0 0 (-1)) fun V33 =>
  some V33) else (jn (fun V12 =>
  lt (sv V12 1048 o0 0 v10) fun V15 =>
  chk (inb v10 6) <|
  lt (sv V15 5900 0 (v10).toNatClampNeg (V15 1047 o0 0)) fun V17 =>
  chk (inb v10 6) <|
  lt (sv V17 6000 0 (v10).toNatClampNeg 0) fun V19 =>
  jn (fun V22 =>
  some V22) fun k20 =>
  f_X12_chooses_L249 o0 v10 k20 FU 0 V19) fun k13 =>
  if v10 = (V 1048 o0 0) then (k13 V) else (lt (sv V 1052 o0 0 ((V 1052 o0 0) + 1)) fun V32 =>
  k13 V32))) fun k8 =>
  f_X12_chooses_L162 o0 V k8 FU (-1) 0)) fun k4 =>
  f_X12_chooses_L28 o0 V k4 FU v1 0) fun k2 =>
  jn (k2 false) fun k84 =>
  if (V 1048 o0 0) = (-1) then (k84) else (chk (inb (V 1048 o0 0) 6) <|
  if (V 4700 0 (V 1048 o0 0).toNatClampNeg) = 0 then (k2 true) else (k84))
def f_X12_step_L12 (o0 : Nat) (k2 : HV → Option (HV)) : Nat → Int32 → HV → Option (HV)
  | 0, _, _ => none
  | n37 + 1, v35, V36 =>
  if (V36 1019 o0 0) ≤ v35 then (k2 V36) else (chk (inb v35 6) <|
  jn (fun v41 =>
  jn (fun V44 =>
  lt (v35 + 1) fun v47 =>
  f_X12_step_L12 o0 k2 n37 v47 V44) fun k45 =>
  if v41 = true then (chk (inb v35 6) <|
  lt (sv V36 4700 0 (v35).toNatClampNeg 0) fun V50 =>
  chk (inb v35 6) <|
  lt (sv V50 4800 0 (v35).toNatClampNeg (-1)) fun V52 =>
  k45 V52) else (k45 V36)) fun k42 =>
  jn (k42 false) fun k53 =>
  jn (chk (inb v35 6) <|
  if (V36 4800 0 (v35).toNatClampNeg) = (-1) then (k53) else (chk (inb v35 6) <|
  if (V36 1047 o0 0) < (V36 4800 0 (v35).toNatClampNeg) then (k53) else (k42 true))) fun k55 =>
  if (V36 4700 0 (v35).toNatClampNeg) = 1 then (k55) else (chk (inb v35 6) <|
  if (V36 4700 0 (v35).toNatClampNeg) = 2 then (k55) else (k53)))
def f_X12_step (o0 : Nat) (V : HV) : Option (HV) :=
  lt (sv V 1047 o0 0 ((V 1047 o0 0) + 1)) fun V1 =>
  jn (fun V4 =>
  bnd (f_X12_chooses o0 V4) fun p5 =>
  jn (fun V6 =>
  bnd (f_X12_sweep o0 V6) fun p9 =>
  some p9) fun k7 =>
  if (p5 1048 o0 0) = (-1) then (k7 p5) else (lt (sv p5 1080 o0 0 (p5 1048 o0 0)) fun V11 =>
  chk (inb (V11 1080 o0 0) 6) <|
  chk (inb (V11 1080 o0 0) 6) <|
  lt (sv V11 6000 0 (V11 1080 o0 0).toNatClampNeg ((V11 6000 0 (V11 1080 o0 0).toNatClampNeg) + 1)) fun V14 =>
  bnd (f_X12_does o0 V14) fun p15 =>
  lt p15.1 fun v16 =>
  if v16 = 0 then (chk (inb (p15.2 1080 o0 0) 6) <|
  chk (inb (p15.2 1080 o0 0) 6) <|
  lt (sv p15.2 5400 0 (p15.2 1080 o0 0).toNatClampNeg ((p15.2 5400 0 (p15.2 1080 o0 0).toNatClampNeg) + 1)) fun V34 =>
  k7 V34) else (lt (sv p15.2 1049 o0 0 ((p15.2 1049 o0 0) + 1)) fun V18 =>
  chk (inb (V18 1080 o0 0) 6) <|
  lt (sv V18 5300 0 (V18 1080 o0 0).toNatClampNeg v16) fun V20 =>
  chk (inb (V20 1080 o0 0) 6) <|
  lt (if (V20 5000 0 (V20 1080 o0 0).toNatClampNeg) ≤ 0 then (false) else (true) : Bool) fun v22 =>
  bnd (f_X12_returns o0 V20) fun p24 =>
  if v22 = true then (lt (f_X12_reg (p24 1080 o0 0) 10) fun v26 =>
  bnd (f_X12_number o0 v26 (-1) p24) fun p27 =>
  lt (f_X12_reg (p27 1080 o0 0) 11) fun v28 =>
  bnd (f_X12_number o0 v28 v16 p27) fun p29 =>
  k7 p29) else (k7 p24)))) fun k2 =>
  f_X12_step_L12 o0 k2 FU 0 V1
def f_X12_run_L15 (o0 : Nat) (x1 : Int32) (k3 : Int32 → HV → Option (Int32 × HV)) : Nat → Int32 → HV → Option (Int32 × HV)
  | 0, _, _ => none
  | n9 + 1, v7, V8 =>
  if (i2b (V8 1017 o0 0)) = true then (if x1 ≤ v7 then (k3 v7 V8) else (bnd (f_X12_areEnded o0 V8) fun p13 =>
  if p13 = true then (k3 v7 V8) else (bnd (f_X12_step o0 V8) fun p15 =>
  lt (v7 + 1) fun v16 =>
  f_X12_run_L15 o0 x1 k3 n9 v16 p15))) else (k3 v7 V8)
def f_X12_run (o0 : Nat) (x1 : Int32) (V : HV) : Option (Int32 × HV) :=
  if x1 < 0 then (some ((-1), V)) else (if x1 ≤ 5000 then (jn (fun v5 V6 =>
  some (v5, V6)) fun k3 =>
  f_X12_run_L15 o0 x1 k3 FU 0 V) else (some ((-1), V)))
def f_X12_input (o0 : Nat) (x1 : Int32) (V : HV) : Option (Bool × HV) :=
  if x1 < 0 then (some (false, V)) else (if 255 < x1 then (some (false, V)) else (if (V 1064 o0 0) = 64 then (some (false, V)) else (if (i2b (V 1017 o0 0)) = true then (chk (inb (V 1064 o0 0) 64) <|
  lt (sv V 8300 0 (V 1064 o0 0).toNatClampNeg x1) fun V6 =>
  lt (sv V6 1064 o0 0 ((V6 1064 o0 0) + 1)) fun V7 =>
  some (true, V7)) else (some (false, V)))))
def f_X12_fetch_L25 (o0 : Nat) (V : HV) (v1 : Int32) (k4 : Int64 → Option (Int64 × HV)) : Nat → Int64 → Int32 → Option (Int64 × HV)
  | 0, _, _ => none
  | n11 + 1, v9, v10 =>
  if 7 ≤ v10 then (k4 v9) else (lt (v9 <<< (Int32.toInt64 (8 : Int32) &&& 63)) fun v14 =>
  jn (fun v15 =>
  lt (v10 + 1) fun v18 =>
  f_X12_fetch_L25 o0 V v1 k4 n11 v15 v18) fun k16 =>
  if v1 ≤ v10 then (k16 v14) else (chk (inb (((V 1066 o0 0) + v10) - ((V 1066 o0 0) + v10) / 500 * 500) 500) <|
  lt (v14 ||| ((V 8500 0 (((V 1066 o0 0) + v10) - ((V 1066 o0 0) + v10) / 500 * 500).toNatClampNeg).toInt64)) fun v21 =>
  k16 v21))
def f_X12_fetch (o0 : Nat) (V : HV) : Option (Int64 × HV) :=
  lt (if 7 ≤ (V 1067 o0 0) then (7) else ((V 1067 o0 0)) : Int32) fun v1 =>
  lt v1.toInt64 fun v3 =>
  jn (fun v6 =>
  lt (sv V 1066 o0 0 (((V 1066 o0 0) + v1) - ((V 1066 o0 0) + v1) / 500 * 500)) fun V7 =>
  lt (sv V7 1067 o0 0 ((V7 1067 o0 0) - v1)) fun V8 =>
  some (v6, V8)) fun k4 =>
  f_X12_fetch_L25 o0 V v1 k4 FU v3 0
def f_X12_register (o0 : Nat) (x1 : Int32) (x2 : Int32) (x3 : Int32) (V : HV) : Option (Int64) :=
  if x1 < 0 then (some ((-1) : Int64)) else (if (V 1019 o0 0) ≤ x1 then (some ((-1) : Int64)) else (if x2 < 0 then (some ((-1) : Int64)) else (if x2 ≤ 16 then (lt (f_X12_reg x1 x2) fun v5 =>
  if x3 = 0 then (chk (inb v5 600) <|
  lt (f_X12_plain (V 2400 0 (v5).toNatClampNeg)) fun v8 =>
  some v8) else
  if x3 = 1 then (chk (inb v5 600) <|
  lt (f_X12_plain (V 2500 0 (v5).toNatClampNeg)) fun v11 =>
  some v11) else
  if x3 = 2 then (chk (inb v5 600) <|
  lt (f_X12_plain (V 2600 0 (v5).toNatClampNeg)) fun v14 =>
  some v14) else
  if x3 = 3 then (chk (inb v5 600) <|
  some ((V 2700 0 (v5).toNatClampNeg).toInt64)) else
  if x3 = 4 then (chk (inb v5 600) <|
  some ((V 2800 0 (v5).toNatClampNeg).toInt64)) else
  if x3 = 5 then (chk (inb v5 600) <|
  lt (if (i2b (V 2900 0 (v5).toNatClampNeg)) = true then ((1 : Int64)) else ((0 : Int64)) : Int64) fun v21 =>
  some v21) else
  some ((-1) : Int64)) else (some ((-1) : Int64)))))
def f_X12_memory (o0 : Nat) (x1 : Int32) (x2 : Int32) (V : HV) : Option (Int64) :=
  if (i2b (V 1017 o0 0)) = true then (jn (if x1 < 0 then (some ((-1) : Int64)) else (if x1 ≤ ((V 1000 o0 0) - x2) then (bnd (f_X12_get o0 x1 x2 V) fun p6 =>
  lt (f_X12_plain p6) fun v7 =>
  some v7) else (some ((-1) : Int64)))) fun k2 =>
  if x2 = 1 then (k2) else (if x2 = 2 then (k2) else (if x2 = 4 then (k2) else (some ((-1) : Int64))))) else (some ((-1) : Int64))
def f_X12_tag (o0 : Nat) (x1 : Int32) (V : HV) : Option (Int32) :=
  if (i2b (V 1017 o0 0)) = true then (if x1 < 0 then (some (-1)) else (if x1 < ((V 1000 o0 0) / 16) then (chk (inb x1 2048) <|
  lt (if (i2b (V 2200 0 (x1).toNatClampNeg)) = true then (true) else (false) : Bool) fun v5 =>
  chk (inb x1 2048) <|
  lt (if (i2b (V 2300 0 (x1).toNatClampNeg)) = true then (2) else (0) : Int32) fun v8 =>
  some ((b2i v5) + v8)) else (some (-1)))) else (some (-1))
def f_X12_thread (o0 : Nat) (x1 : Int32) (x2 : Int32) (V : HV) : Option (Int32) :=
  if x1 < 0 then (some (-1)) else (if x1 < (V 1019 o0 0) then (if x2 = 0 then (chk (inb x1 6) <|
  some (V 4700 0 (x1).toNatClampNeg)) else
  if x2 = 1 then (chk (inb x1 6) <|
  some (V 4900 0 (x1).toNatClampNeg)) else
  if x2 = 2 then (chk (inb x1 6) <|
  some (V 5000 0 (x1).toNatClampNeg)) else
  if x2 = 3 then (chk (inb x1 6) <|
  lt (if (i2b (V 5200 0 (x1).toNatClampNeg)) = true then (true) else (false) : Bool) fun v11 =>
  some (b2i v11)) else
  if x2 = 4 then (chk (inb x1 6) <|
  some (V 5300 0 (x1).toNatClampNeg)) else
  if x2 = 5 then (chk (inb x1 6) <|
  some (V 5400 0 (x1).toNatClampNeg)) else
  if x2 = 6 then (chk (inb x1 6) <|
  some (V 4800 0 (x1).toNatClampNeg)) else
  if x2 = 7 then (chk (inb x1 6) <|
  some (V 5600 0 (x1).toNatClampNeg)) else
  some (-1)) else (some (-1)))
def f_X12_compartment (o0 : Nat) (x1 : Int32) (x2 : Int32) (V : HV) : Option (Int32) :=
  if x1 < 0 then (some (-1)) else (if x1 < (V 1018 o0 0) then (if x2 = 0 then (chk (inb x1 8) <|
  some (V 4000 0 (x1).toNatClampNeg)) else
  if x2 = 1 then (chk (inb x1 8) <|
  some (V 4100 0 (x1).toNatClampNeg)) else
  if x2 = 2 then (chk (inb x1 8) <|
  some (V 4200 0 (x1).toNatClampNeg)) else
  if x2 = 3 then (chk (inb x1 8) <|
  some (V 4300 0 (x1).toNatClampNeg)) else
  some (-1)) else (some (-1)))
def f_X12_heap_L32 (o0 : Nat) (x1 : Int32) (V : HV) (k4 : Int32 → Int32 → Int32 → Int32 → Option (Int32)) : Nat → Int32 → Int32 → Int32 → Int32 → Int32 → Option (Int32)
  | 0, _, _, _, _, _ => none
  | n24 + 1, v19, v20, v21, v22, v23 =>
  if (V 1055 o0 0) ≤ v23 then (k4 v19 v20 v21 v22) else (chk (inb v23 2049) <|
  jn (fun v28 v29 v30 v31 =>
  lt (v23 + 1) fun v34 =>
  f_X12_heap_L32 o0 x1 V k4 n24 v28 v29 v30 v31 v34) fun k32 =>
  if (i2b (V 7800 0 (v23).toNatClampNeg)) = true then (chk (inb v23 2049) <|
  lt (v21 + (V 7700 0 (v23).toNatClampNeg)) fun v46 =>
  k32 v19 v20 v46 v22) else (jn (fun v36 =>
  lt (v19 + 1) fun v39 =>
  chk (inb v23 2049) <|
  lt (v20 + (V 7700 0 (v23).toNatClampNeg)) fun v41 =>
  k32 v39 v41 v21 v36) fun k37 =>
  if v19 = (x1 - 8) then (chk (inb v23 2049) <|
  lt (V 7600 0 (v23).toNatClampNeg) fun v44 =>
  k37 v44) else (k37 v22)))
def f_X12_heap (o0 : Nat) (x1 : Int32) (V : HV) : Option (Int32) :=
  if (i2b (V 1017 o0 0)) = true then (if x1 < 0 then (some (-1)) else (if x1 = 7 then (some (-1)) else (jn (fun v6 v7 v8 v9 =>
  if x1 = 0 then (some (V 1054 o0 0)) else
  if x1 = 1 then (some v6) else
  if x1 = 2 then (some v7) else
  if x1 = 3 then (some v8) else
  if x1 = 4 then (bnd (f_X12_freeBytes o0 V) fun p15 =>
  some p15) else
  if x1 = 5 then (some (V 1062 o0 0)) else
  if x1 = 6 then (some (V 1061 o0 0)) else
  some v9) fun k4 =>
  f_X12_heap_L32 o0 x1 V k4 FU 0 0 0 (-1) 0))) else (some (-1))
def f_X12_count (o0 : Nat) (x1 : Int32) (V : HV) : Int32 :=
  if x1 = 0 then ((V 1047 o0 0)) else
  if x1 = 1 then ((V 1048 o0 0)) else
  if x1 = 2 then ((V 1049 o0 0)) else
  if x1 = 3 then ((V 1050 o0 0)) else
  if x1 = 4 then ((V 1051 o0 0)) else
  if x1 = 5 then ((V 1052 o0 0)) else
  if x1 = 6 then ((V 1011 o0 0)) else
  if x1 = 7 then ((V 1067 o0 0)) else
  if x1 = 8 then ((V 1064 o0 0)) else
  if x1 = 9 then (lt (if (i2b (V 1017 o0 0)) = true then (true) else (false) : Bool) fun v11 =>
  (b2i v11)) else
  (-1)
def f_X12_isMore_L359 (o0 : Nat) (x1 : Int32) (V : HV) (v14 : Int32) (k25 : Bool → Option (Bool)) : Nat → Bool → Int32 → Option (Bool)
  | 0, _, _ => none
  | n34 + 1, v32, v33 =>
  if (V 1055 o0 0) ≤ v33 then (k25 v32) else (jn (fun v37 =>
  lt (v33 + 1) fun v40 =>
  f_X12_isMore_L359 o0 x1 V v14 k25 n34 v37 v40) fun k38 =>
  jn (k38 true) fun k41 =>
  if v32 = true then (k41) else (chk (inb x1 600) <|
  chk (inb v33 2049) <|
  jn (k38 false) fun k46 =>
  if (V 2500 0 (x1).toNatClampNeg) < (V 7600 0 (v33).toNatClampNeg) then (k46) else (chk (inb x1 600) <|
  chk (inb v33 2049) <|
  chk (inb v33 2049) <|
  if ((V 7600 0 (v33).toNatClampNeg) + (V 7700 0 (v33).toNatClampNeg)) < (V 2600 0 (x1).toNatClampNeg) then (k46) else (if (v14 &&& (((27 : Int32) ||| 64) ^^^ (-1))) = 0 then (k41) else (k46)))))
def f_X12_isMore_L284 (o0 : Nat) (x1 : Int32) (V : HV) (v14 : Int32) (k22 : Bool → Option (Bool)) : Nat → Bool → Int32 → Option (Bool)
  | 0, _, _ => none
  | n56 + 1, v54, v55 =>
  if (V 1019 o0 0) ≤ v55 then (k22 v54) else (jn (fun v59 =>
  lt (v55 + 1) fun v62 =>
  f_X12_isMore_L284 o0 x1 V v14 k22 n56 v59 v62) fun k60 =>
  jn (k60 true) fun k63 =>
  if v54 = true then (k63) else (chk (inb x1 600) <|
  chk (inb v55 6) <|
  jn (k60 false) fun k68 =>
  if (V 2500 0 (x1).toNatClampNeg) < (V 5600 0 (v55).toNatClampNeg) then (k68) else (chk (inb x1 600) <|
  chk (inb v55 6) <|
  if (V 5700 0 (v55).toNatClampNeg) < (V 2600 0 (x1).toNatClampNeg) then (k68) else (if (v14 &&& (((27 : Int32) ||| 128) ^^^ (-1))) = 0 then (k63) else (k68)))))
def f_X12_isMore_L159 (o0 : Nat) (x1 : Int32) (V : HV) (v14 : Int32) (k19 : Bool → Option (Bool)) : Nat → Bool → Int32 → Option (Bool)
  | 0, _, _ => none
  | n77 + 1, v75, v76 =>
  if (V 1018 o0 0) ≤ v76 then (k19 v75) else (jn (fun v80 =>
  jn (fun v83 =>
  lt (v76 + 1) fun v86 =>
  f_X12_isMore_L159 o0 x1 V v14 k19 n77 v83 v86) fun k84 =>
  jn (k84 true) fun k87 =>
  if v80 = true then (k87) else (chk (inb x1 600) <|
  chk (inb v76 8) <|
  jn (k84 false) fun k92 =>
  if (V 2500 0 (x1).toNatClampNeg) < (V 4200 0 (v76).toNatClampNeg) then (k92) else (chk (inb x1 600) <|
  chk (inb v76 8) <|
  if (V 4300 0 (v76).toNatClampNeg) < (V 2600 0 (x1).toNatClampNeg) then (k92) else (if (v14 &&& (((27 : Int32) ||| 64) ^^^ (-1))) = 0 then (k87) else (k92))))) fun k81 =>
  jn (k81 true) fun k99 =>
  if v75 = true then (k99) else (chk (inb x1 600) <|
  chk (inb v76 8) <|
  jn (k81 false) fun k104 =>
  if (V 2500 0 (x1).toNatClampNeg) < (V 4000 0 (v76).toNatClampNeg) then (k104) else (chk (inb x1 600) <|
  chk (inb v76 8) <|
  if (V 4200 0 (v76).toNatClampNeg) < (V 2600 0 (x1).toNatClampNeg) then (k104) else (if (v14 &&& (-78)) = 0 then (k99) else (k104)))))
def f_X12_isMore (o0 : Nat) (x1 : Int32) (V : HV) : Option (Bool) :=
  chk (inb x1 600) <|
  jn (fun v2 =>
  chk (inb x1 600) <|
  if (i2b (V 2900 0 (x1).toNatClampNeg)) = true then (if v2 = true then (chk (inb x1 600) <|
  lt (f_X12_plain (V 2500 0 (x1).toNatClampNeg)) fun v9 =>
  chk (inb x1 600) <|
  lt (f_X12_plain (V 2600 0 (x1).toNatClampNeg)) fun v11 =>
  if (lg_cmp v9 v11) < 0 then (chk (inb x1 600) <|
  lt (V 2700 0 (x1).toNatClampNeg) fun v14 =>
  chk (inb x1 600) <|
  jn (fun v16 =>
  jn (fun v21 =>
  jn (fun v24 =>
  jn (fun v27 =>
  lt (if v27 = true then (false) else (true) : Bool) fun v28 =>
  some v28) fun k25 =>
  f_X12_isMore_L359 o0 x1 V v14 k25 FU v24 0) fun k22 =>
  f_X12_isMore_L284 o0 x1 V v14 k22 FU v21 0) fun k19 =>
  f_X12_isMore_L159 o0 x1 V v14 k19 FU v16 0) fun k17 =>
  jn (k17 true) fun k111 =>
  jn (chk (inb x1 600) <|
  jn (k17 false) fun k116 =>
  if (V 2500 0 (x1).toNatClampNeg) < 8 then (k116) else (chk (inb x1 600) <|
  if 264 < (V 2600 0 (x1).toNatClampNeg) then (k116) else (if (v14 &&& (-97)) = 0 then (k111) else (k116)))) fun k113 =>
  if (V 2500 0 (x1).toNatClampNeg) < 268435456 then (k113) else (chk (inb x1 600) <|
  lt (f_X12_plain (V 2600 0 (x1).toNatClampNeg)) fun v124 =>
  if 0 < (lg_cmp v124 (268435472 : Int64)) then (k113) else (if (v14 &&& (-68)) = 0 then (k111) else (k113)))) else (some false)) else (some false)) else (some false)) fun k3 =>
  jn (k3 true) fun k127 =>
  if (V 2800 0 (x1).toNatClampNeg) = 0 then (k127) else (chk (inb x1 600) <|
  if (V 2800 0 (x1).toNatClampNeg) < 4 then (k127) else (chk (inb x1 600) <|
  if (V 2800 0 (x1).toNatClampNeg) ≤ 7 then (k3 false) else (k127)))
def f_X12_isStray_L74 (o0 : Nat) (x1 : Int32) (V : HV) (k14 : Bool → Option (Bool)) : Nat → Bool → Int32 → Option (Bool)
  | 0, _, _ => none
  | n23 + 1, v21, v22 =>
  if (V 1055 o0 0) ≤ v22 then (k14 v21) else (jn (fun v26 =>
  lt (v22 + 1) fun v29 =>
  f_X12_isStray_L74 o0 x1 V k14 n23 v26 v29) fun k27 =>
  jn (k27 true) fun k30 =>
  if v21 = true then (k30) else (chk (inb x1 600) <|
  chk (inb v22 2049) <|
  jn (k27 false) fun k35 =>
  if (V 2500 0 (x1).toNatClampNeg) < (V 7600 0 (v22).toNatClampNeg) then (k35) else (chk (inb x1 600) <|
  chk (inb v22 2049) <|
  chk (inb v22 2049) <|
  if ((V 7600 0 (v22).toNatClampNeg) + (V 7700 0 (v22).toNatClampNeg)) ≤ (V 2500 0 (x1).toNatClampNeg) then (k35) else (k30))))
def f_X12_isStray (o0 : Nat) (x1 : Int32) (V : HV) : Option (Bool) :=
  chk (inb x1 600) <|
  if (i2b (V 2900 0 (x1).toNatClampNeg)) = true then (chk (inb x1 600) <|
  if ((V 2700 0 (x1).toNatClampNeg) &&& 3) = 0 then (some false) else (chk (inb x1 600) <|
  lt (f_X12_plain (V 2500 0 (x1).toNatClampNeg)) fun v6 =>
  chk (inb x1 600) <|
  lt (f_X12_plain (V 2600 0 (x1).toNatClampNeg)) fun v8 =>
  if 0 ≤ (lg_cmp v6 v8) then (some false) else (chk (inb x1 600) <|
  if (V 2500 0 (x1).toNatClampNeg) < (V 1054 o0 0) then (some false) else (chk (inb x1 600) <|
  if (V 2500 0 (x1).toNatClampNeg) < (V 1000 o0 0) then (jn (fun v16 =>
  lt (if v16 = true then (false) else (true) : Bool) fun v17 =>
  some v17) fun k14 =>
  f_X12_isStray_L74 o0 x1 V k14 FU false 0) else (some false))))) else (some false)
def f_X12_broken_L132 (o0 : Nat) (x1 : Int32) (V7 : HV) (k11 : Int32 → Option (Int32 × HV)) : Nat → Int32 → Int32 → Option (Int32 × HV)
  | 0, _, _ => none
  | n16 + 1, v14, v15 =>
  if 16 < v15 then (k11 v14) else (if x1 = 1 then (if (V7 1048 o0 0) = (-1) then (k11 v14) else (lt (f_X12_reg (V7 1048 o0 0) v15) fun v21 =>
  chk (inb v21 600) <|
  jn (fun v23 =>
  lt (v14 + (b2i v23)) fun v26 =>
  lt (v15 + 1) fun v27 =>
  f_X12_broken_L132 o0 x1 V7 k11 n16 v26 v27) fun k24 =>
  jn (k24 false) fun k28 =>
  if (i2b (V7 2900 0 (v21).toNatClampNeg)) = true then (lt (f_X12_reg (V7 1048 o0 0) v15) fun v31 =>
  chk (inb v31 600) <|
  lt (f_X12_plain (V7 2500 0 (v31).toNatClampNeg)) fun v33 =>
  lt (f_X12_reg (V7 1048 o0 0) v15) fun v34 =>
  chk (inb v34 600) <|
  lt (f_X12_plain (V7 2600 0 (v34).toNatClampNeg)) fun v36 =>
  if 0 ≤ (lg_cmp v33 v36) then (k28) else (lt (f_X12_reg (V7 1048 o0 0) v15) fun v38 =>
  chk (inb v38 600) <|
  if ((V7 2700 0 (v38).toNatClampNeg) &&& 3) = 0 then (k28) else (lt (f_X12_reg (V7 1048 o0 0) v15) fun v41 =>
  bnd (f_X12_isGone o0 v41 V7) fun p42 =>
  if p42 = true then (k24 true) else (k28)))) else (k28))) else (k11 v14))
def f_X12_broken_L97 (o0 : Nat) (x1 : Int32) (V7 : HV) (k8 : Int32 → Option (Int32 × HV)) : Nat → Int32 → Int32 → Option (Int32 × HV)
  | 0, _, _ => none
  | n46 + 1, v44, v45 =>
  if 582 ≤ v45 then (k8 v44) else (if x1 = 0 then (bnd (f_X12_isMore o0 v45 V7) fun p50 =>
  lt (if p50 = true then (true) else (false) : Bool) fun v51 =>
  lt (v44 + (b2i v51)) fun v53 =>
  lt (v45 + 1) fun v54 =>
  f_X12_broken_L97 o0 x1 V7 k8 n46 v53 v54) else (k8 v44))
def f_X12_broken_L22 (o0 : Nat) (x1 : Int32) (k4 : Int32 → HV → Option (Int32 × HV)) : Nat → Int32 → Int32 → HV → Option (Int32 × HV)
  | 0, _, _, _ => none
  | n60 + 1, v57, v58, V59 =>
  if ((V59 1000 o0 0) / 16) ≤ v58 then (k4 v57 V59) else (if x1 = 1 then (k4 v57 V59) else (bnd (f_X12_getCapability o0 (16 * v58) 585 V59) fun p64 =>
  jn (fun v65 =>
  lt (v57 + (b2i v65)) fun v68 =>
  lt (v58 + 1) fun v69 =>
  f_X12_broken_L22 o0 x1 k4 n60 v68 v69 p64) fun k66 =>
  if x1 = 0 then (bnd (f_X12_isMore o0 585 p64) fun p73 =>
  if p73 = true then (k66 true) else (k66 false)) else (bnd (f_X12_isStray o0 585 p64) fun p71 =>
  if p71 = true then (k66 true) else (k66 false))))
def f_X12_broken (o0 : Nat) (x1 : Int32) (V : HV) : Option (Int32 × HV) :=
  if (i2b (V 1017 o0 0)) = true then (if x1 < 0 then (some (0, V)) else (if x1 ≤ 2 then (jn (fun v6 V7 =>
  jn (fun v10 =>
  jn (fun v13 =>
  some (v13, V7)) fun k11 =>
  f_X12_broken_L132 o0 x1 V7 k11 FU v10 0) fun k8 =>
  f_X12_broken_L97 o0 x1 V7 k8 FU v6 0) fun k4 =>
  f_X12_broken_L22 o0 x1 k4 FU 0 0 V) else (some (0, V)))) else (some (0, V))
end
