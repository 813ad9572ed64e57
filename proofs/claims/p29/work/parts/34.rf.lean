/-! ===== the reference over tables: functions alone ===== -/
def w5 (T : sw_T) (p1 : Int) : Option (sw_T) :=
  (sw_r2 (T 219 1) 60).bind fun _u =>
  if (T 219 1) < 60 then
    (sw_c16 p1).bind fun _u =>
    (sw_sc T 220 60 (T 219 1) p1).bind fun T5 =>
    (sw_pf T5 219 1 ((T5 219 1) + 1)).bind fun T6 =>
    some (T6)
  else
    some (T)
def w6 (T : sw_T) : Option (Int × sw_T) :=
  (sw_pf T 219 1 0).bind fun T1 =>
  some (((T 219 1), T1))
def w7 (T : sw_T) (p1 : Int) : Option (Int) :=
  (sw_r1 p1).bind fun _u =>
  if p1 < 0 then
    some (0)
  else
    (sw_r2 p1 (T 219 1)).bind fun _u =>
    if p1 < (T 219 1) then
      (sw_ld T 220 60 p1).bind fun v6 =>
      some (v6)
    else
      some (0)
def w13 (T : sw_T) (p0 : Int) : Option (Int) :=
  (sw_r1 p0).bind fun _u =>
  if p0 = 108 then
    some (1)
  else
  if p0 = 109 then
    some (3)
  else
  if p0 = 118 then
    some (5)
  else
  if p0 = 119 then
    some (7)
  else
    some ((-1))
def w15 (T : sw_T) (p0 : Int) (p1 : Int) (p2 : Int) : Option (Int) :=
  (sw_r2 p1 p0).bind fun _u =>
  if p1 < p0 then
    some (0)
  else
    (sw_r2 p1 p2).bind fun _u =>
    if p2 < p1 then
      some (0)
    else
      some (1)
def w14 (T : sw_T) (p0 : Int) : Option (Int) :=
  (sw_r2 p0 59).bind fun _u =>
  if p0 = 59 then
    some (0)
  else
    some ((-1))
def w12 (T : sw_T) (p0 : Int) (p1 : Int) : Option (Int) :=
  (sw_r1 p0).bind fun _u =>
  if p0 = 0 then
    (w13 T p1).bind fun r4 =>
    some (r4)
  else
  if p0 = 1 then
    (w15 T 48 p1 53).bind fun r7 =>
    (sw_r1 r7).bind fun _u =>
    if r7 = 0 then
      some ((-1))
    else
      some (2)
  else
  if p0 = 2 then
    (sw_r2 p1 46).bind fun _u =>
    if p1 = 46 then
      some (3)
    else
      some ((-1))
  else
  if p0 = 3 then
    (w15 T 49 p1 57).bind fun r15 =>
    (sw_r1 r15).bind fun _u =>
    if r15 = 0 then
      some ((-1))
    else
      some (4)
  else
  if p0 = 4 then
    (w15 T 48 p1 57).bind fun r20 =>
    (sw_r1 r20).bind fun _u =>
    if r20 = 0 then
      (w14 T p1).bind fun r24 =>
      some (r24)
    else
      some (8)
  else
  if p0 = 5 then
    (w15 T 48 p1 53).bind fun r27 =>
    (sw_r1 r27).bind fun _u =>
    if r27 = 0 then
      some ((-1))
    else
      some (6)
  else
  if p0 = 6 then
    (w15 T 49 p1 57).bind fun r32 =>
    (sw_r1 r32).bind fun _u =>
    if r32 = 0 then
      some ((-1))
    else
      some (8)
  else
  if p0 = 7 then
    (w15 T 48 p1 53).bind fun r37 =>
    (sw_r1 r37).bind fun _u =>
    if r37 = 0 then
      some ((-1))
    else
      some (8)
  else
  if p0 = 8 then
    (w14 T p1).bind fun r42 =>
    some (r42)
  else
    some ((-1))
def w8_4 (T : sw_T) : Nat → Int → Int → Option ((Unit) ⊕ (Int))
  | 0, _, _ => none
  | m + 1, l1, l2 =>
    (sw_r2 l2 (T 219 1)).bind fun _u =>
    if l2 < (T 219 1) then
      (sw_ld T 220 60 l2).bind fun v4 =>
      (w12 T l1 v4).bind fun r6 =>
      (sw_r2 r6 (-1)).bind fun _u =>
      if r6 = (-1) then
        some (.inr (l2))
      else
        w8_4 T m r6 (l2 + 1)
    else
      some (.inl ())
def w8 (T : sw_T) : Option (Int) :=
  (w8_4 T sw_N 0 0).bind fun x9 =>
  sw_el x9 (fun x11 =>
    some ((T 219 1))
  ) (fun r => some r)
def w9_4 (T : sw_T) : Nat → Int → Int → Option (Int)
  | 0, _, _ => none
  | m + 1, l1, l2 =>
    (sw_r2 l2 (T 219 1)).bind fun _u =>
    if l2 < (T 219 1) then
      (sw_ld T 220 60 l2).bind fun v4 =>
      (w12 T l1 v4).bind fun r6 =>
      w9_4 T m r6 (l2 + 1)
    else
      some (l1)
def w9 (T : sw_T) : Option (Int) :=
  (w9_4 T sw_N 0 0).bind fun x7 =>
  (sw_r2 x7 4).bind fun _u =>
  if x7 = 4 then
    some (1)
  else
    (sw_r2 x7 8).bind fun _u =>
    if x7 = 8 then
      some (1)
    else
      some (0)
def w10 (T : sw_T) (p1 : Int) : Option (Int) :=
  (sw_r1 p1).bind fun _u =>
  if p1 = 0 then
    some (1)
  else
    (w7 T (p1 - 1)).bind fun r4 =>
    (sw_r2 r4 59).bind fun _u =>
    if r4 = 59 then
      some (1)
    else
      some (0)
def w11 (T : sw_T) (p1 : Int) : Option (Int) :=
  (w7 T p1).bind fun r2 =>
  (w7 T (p1 + 1)).bind fun r4 =>
  (w15 T 48 r4 57).bind fun r6 =>
  (sw_r1 r6).bind fun _u =>
  if r6 = 0 then
    some ((r2 - 48))
  else
    some ((((10 * (r2 - 48)) + r4) - 48))
def w41_2 (b : Nat) (l1 : Int) : Nat → sw_T → Int → Option ((sw_T) ⊕ (Int × sw_T))
  | 0, _, _ => none
  | m + 1, T, l2 =>
    (sw_r2 l2 2000).bind fun _u =>
    if 2000 < l2 then
      some (.inl T)
    else
      (w45 b T).bind fun r4 =>
      (sw_r2 r4 (T (b + 20) 0)).bind fun _u =>
      if r4 = (T (b + 20) 0) then
        some (.inr ((l2, T)))
      else
        (w47 b T).bind fun r8 =>
        (sw_r2 r8 (T b 1)).bind fun _u =>
        if r8 = (T b 1) then
          some (.inr (((-1), T)))
        else
          (w33 b T l1).bind fun r12 =>
          w41_2 b l1 m r12 (l2 + 1)
def w41 (b : Nat) (T : sw_T) (p1 : Int) : Option (Int × sw_T) :=
  (w41_2 b p1 sw_N T 0).bind fun x13 =>
  sw_el x13 (fun x15 =>
    some (((-1), x15))
  ) (fun r => some r)
def w65 (T : sw_T) (p1 : Int) : Option ((Int × sw_T) ⊕ Nat) :=
  (sw_r2 p1 33).bind fun _u =>
  if p1 < 33 then
    some (.inr 0)
  else
    (sw_r2 p1 126).bind fun _u =>
    if 126 < p1 then
      some (.inr 0)
    else
      (sw_r2 (T 219 1) 60).bind fun _u =>
      if (T 219 1) < 60 then
        (w5 T p1).bind fun r8 =>
        some (.inl (((r8 219 1), r8)))
      else
        some (.inr 1)
def w66 (T : sw_T) : Option (Int × sw_T) :=
  (w6 T).bind fun r2 =>
  some ((r2.1, r2.2))
def w67 (T : sw_T) : Option (Int) :=
  (w8 T).bind fun r2 =>
  some (r2)
def w93 (T : sw_T) (p1 : Int) : Option (Int × sw_T) :=
  (w7 T p1).bind fun r2 =>
  (sw_r2 r2 109).bind fun _u =>
  if r2 = 109 then
    (w11 T (p1 + 1)).bind fun r6 =>
    (w32 1 T r6).bind fun r8 =>
    some ((1, r8))
  else
    (w7 T (p1 + 1)).bind fun r10 =>
    (w25 1 T (r10 - 48)).bind fun r12 =>
    (sw_r1 r12).bind fun _u =>
    if r12 = 0 then
      some ((0, T))
    else
      (sw_r2 r2 119).bind fun _u =>
      if r2 = 119 then
        (w28 1 T (r10 - 48)).bind fun r18 =>
        some ((1, r18.2))
      else
        (sw_r2 r2 118).bind fun _u =>
        if r2 = 118 then
          (w11 T (p1 + 2)).bind fun r22 =>
          (w27 1 T (r10 - 48) r22).bind fun r24 =>
          some ((1, r24.2))
        else
          (w29 1 T (r10 - 48)).bind fun r26 =>
          (sw_r1 r26).bind fun _u =>
          if r26 = 0 then
            some ((0, T))
          else
            (w11 T (p1 + 3)).bind fun r30 =>
            (w30 1 T (r10 - 48) r30).bind fun r32 =>
            some ((1, r32.2))
def w68_35 : Nat → sw_T → Int → Int → Option (sw_T × Int)
  | 0, _, _, _ => none
  | m + 1, T, l1, l2 =>
    (sw_r2 l2 (T 219 1)).bind fun _u =>
    if l2 < (T 219 1) then
      (w10 T l2).bind fun r10 =>
      (sw_r1 r10).bind fun _u =>
      if r10 = 0 then
        w68_35 m T l1 (l2 + 1)
      else
        (w93 T l2).bind fun r14 =>
        (sw_r1 r14.1).bind fun _u =>
        if r14.1 = 0 then
          some ((r14.2, l1))
        else
          w68_35 m r14.2 (l1 + 1) (l2 + 1)
    else
      some ((T, l1))
def w68 (T : sw_T) : Option ((Int × sw_T) ⊕ Nat) :=
  (w9 T).bind fun r2 =>
  (sw_r1 r2).bind fun _u =>
  if r2 = 0 then
    some (.inr 0)
  else
    (w1 1 T).bind fun r6 =>
    (w68_35 sw_N r6 0 0).bind fun x17 =>
    (w6 x17.1).bind fun r20 =>
    some (.inl ((x17.2, r20.2)))
def w78 (T : sw_T) : Option (Int × sw_T) :=
  (w24 49 1 T).bind fun r2 =>
  (w41 49 r2 1).bind fun r4 =>
  some ((r4.1, r4.2))
def w79 (T : sw_T) : Option (Int × sw_T) :=
  (w24 49 1 T).bind fun r2 =>
  (w41 49 r2 0).bind fun r4 =>
  some ((r4.1, r4.2))
def w80 (T : sw_T) (p1 : Int) : Option ((Int × sw_T) ⊕ Nat) :=
  (w91 T p1).bind fun r2 =>
  sw_el r2 (fun r3 =>
    (w24 49 1 T).bind fun r8 =>
    (w26 49 r8 p1).bind fun r10 =>
    (w41 49 r10.2 1).bind fun r12 =>
    some (.inl ((r12.1, r12.2)))
  ) (fun E4 =>
  some (.inr E4))
def w85_20 (T : sw_T) (l5 : Int) : Nat → Int → Int → Option (Int)
  | 0, _, _ => none
  | m + 1, l3, l6 =>
    (sw_r2 l6 10).bind fun _u =>
    if l6 < 10 then
      (w72 T l5 l6).bind fun r6 =>
      sw_el r6 (fun r7 =>
        (sw_r1 r7).bind fun _u =>
        w85_20 T l5 m ((31 * l3) + r7) (l6 + 1)
      ) (fun E8 =>
      none)
    else
      some (l3)
def w85_66 (T : sw_T) (l5 : Int) (l6 : Int) : Nat → Int → Int → Option (Int)
  | 0, _, _ => none
  | m + 1, l3, l7 =>
    (sw_r2 l7 l6).bind fun _u =>
    if l7 < l6 then
      (w73 T l5 l7).bind fun r19 =>
      sw_el r19 (fun r20 =>
        (sw_r1 r20).bind fun _u =>
        w85_66 T l5 l6 m ((31 * l3) + r20) (l7 + 1)
      ) (fun E21 =>
      none)
    else
      some (l3)
def w85_5 (T : sw_T) : Nat → Int → Int → Option (Int)
  | 0, _, _ => none
  | m + 1, l3, l5 =>
    (sw_r2 l5 (T 1 1)).bind fun _u =>
    if l5 < (T 1 1) then
      (w85_20 T l5 sw_N l3 0).bind fun x12 =>
      (w18 1 T l5).bind fun r15 =>
      (w85_66 T l5 r15 sw_N x12 0).bind fun x25 =>
      (w77 T l5).bind fun r28 =>
      sw_el r28 (fun r29 =>
        (sw_r1 r29).bind fun _u =>
        w85_5 T m ((31 * x25) + r29) (l5 + 1)
      ) (fun E30 =>
      none)
    else
      some (l3)
def w85 (T : sw_T) (p1 : Int) : Option (Int) :=
  (w85_5 T sw_N p1 0).bind fun x34 =>
  some (x34)
def w86_23 (T : sw_T) (l5 : Int) : Nat → Int → Int → Option (Int)
  | 0, _, _ => none
  | m + 1, l3, l6 =>
    (sw_r2 l6 3).bind fun _u =>
    if l6 < 3 then
      (w74 T l5 l6).bind fun r6 =>
      sw_el r6 (fun r7 =>
        (sw_r1 r7).bind fun _u =>
        w86_23 T l5 m ((31 * l3) + r7) (l6 + 1)
      ) (fun E8 =>
      none)
    else
      some (l3)
def w86_5 (T : sw_T) : Nat → Int → Int → Option (Int)
  | 0, _, _ => none
  | m + 1, l3, l5 =>
    (sw_r2 l5 (T 21 0)).bind fun _u =>
    if l5 < (T 21 0) then
      (w86_23 T l5 sw_N l3 0).bind fun x12 =>
      w86_5 T m x12 (l5 + 1)
    else
      some (l3)
def w86 (T : sw_T) (p1 : Int) : Option (Int) :=
  (w86_5 T sw_N p1 0).bind fun x14 =>
  some (x14)
def w88_15 (T : sw_T) : Nat → UInt64 → Int → Option (UInt64 × Int)
  | 0, _, _ => none
  | m + 1, l2, l4 =>
    (sw_r1 ((Op.cmpValue (FP.dcmp l2 (sp_dc 1)) .g).toInt)).bind fun _u =>
    if ((Op.cmpValue (FP.dcmp l2 (sp_dc 1)) .g).toInt) < 0 then
      (sw_r2 l4 1).bind fun _u =>
      if 1 < l4 then
        (sw_k64 (FP.dmul l2 4611686018427387904)).bind fun _u =>
        w88_15 T m (FP.dmul l2 4611686018427387904) (l4 + (-1))
      else
        some ((l2, l4))
    else
      some ((l2, l4))
def w88_39 (T : sw_T) (l2 : UInt64) (l4 : Int) : Option (Int) :=
  (sw_k64 (FP.dsub l2 (sp_dc 1))).bind fun _u =>
  (sw_k64 (FP.dmul (FP.dsub l2 (sp_dc 1)) 4841369599423283200)).bind fun _u =>
  (sw_r1 l4).bind fun _u =>
  some (((l4 * 4503599627370496) + ((FP.d2l (FP.dmul (FP.dsub l2 (sp_dc 1)) 4841369599423283200)).toInt)))
def w88 (T : sw_T) (p0 : UInt64) : Option (Int) :=
  (sw_r1 ((Op.cmpValue (FP.dcmp p0 (sp_dc 0)) .l).toInt)).bind fun _u =>
  if 0 < ((Op.cmpValue (FP.dcmp p0 (sp_dc 0)) .l).toInt) then
    (w88_15 T sw_N p0 1023).bind fun x8 =>
    w88_39 T x8.1 x8.2
  else
    some (0)
def w89_13 (T : sw_T) : Nat → UInt32 → Int → Option (UInt32 × Int)
  | 0, _, _ => none
  | m + 1, l1, l2 =>
    (sw_r1 ((Op.cmpValue (FP.fcmp l1 (sp_fc 1)) .g).toInt)).bind fun _u =>
    if ((Op.cmpValue (FP.fcmp l1 (sp_fc 1)) .g).toInt) < 0 then
      (sw_r2 l2 1).bind fun _u =>
      if 1 < l2 then
        (sw_k32 (FP.fmul l1 (sp_fc 2))).bind fun _u =>
        w89_13 T m (FP.fmul l1 (sp_fc 2)) (l2 + (-1))
      else
        some ((l1, l2))
    else
      some ((l1, l2))
def w89 (T : sw_T) (p0 : UInt32) : Option (Int) :=
  (sw_r1 ((Op.cmpValue (FP.fcmp p0 (sp_fc 0)) .l).toInt)).bind fun _u =>
  if 0 < ((Op.cmpValue (FP.fcmp p0 (sp_fc 0)) .l).toInt) then
    (w89_13 T sw_N p0 127).bind fun x8 =>
    (sw_k32 (FP.fsub x8.1 (sp_fc 1))).bind fun _u =>
    (sw_k32 (FP.fmul (FP.fsub x8.1 (sp_fc 1)) 1258291200)).bind fun _u =>
    some (((x8.2 * 8388608) + ((FP.f2i (FP.fmul (FP.fsub x8.1 (sp_fc 1)) 1258291200)).toInt)))
  else
    some (0)
def w87_18 (T : sw_T) : Nat → Int → Int → Option (Int)
  | 0, _, _ => none
  | m + 1, l3, l5 =>
    (sw_r2 l5 (T 219 1)).bind fun _u =>
    if l5 < (T 219 1) then
      (w7 T l5).bind fun r5 =>
      (sw_r1 r5).bind fun _u =>
      w87_18 T m ((31 * l3) + r5) (l5 + 1)
    else
      some (l3)
def w87 (T : sw_T) (p1 : Int) : Option (Int) :=
  (sw_r1 (T 219 1)).bind fun _u =>
  (w87_18 T sw_N ((31 * p1) + (T 219 1)) 0).bind fun x7 =>
  some (x7)
def w84_6 (T : sw_T) : Nat → Int → Int → Option (Int)
  | 0, _, _ => none
  | m + 1, l1, l3 =>
    (sw_r2 l3 12).bind fun _u =>
    if l3 < 12 then
      (w75 T l3).bind fun r4 =>
      sw_el r4 (fun r5 =>
        (sw_r1 r5).bind fun _u =>
        w84_6 T m ((31 * l1) + r5) (l3 + 1)
      ) (fun E6 =>
      none)
    else
      some (l1)
def w84_33 (T : sw_T) : Nat → Int → Int → Option (Int)
  | 0, _, _ => none
  | m + 1, l1, l3 =>
    (sw_r2 l3 3).bind fun _u =>
    if l3 < 3 then
      (w76 T l3).bind fun r15 =>
      sw_el r15 (fun r16 =>
        (sw_r1 r16).bind fun _u =>
        w84_33 T m ((31 * l1) + r16) (l3 + 1)
      ) (fun E17 =>
      none)
    else
      some (l1)
def w84_122 : Nat → sw_T → Int → Int → Option (sw_T × Int)
  | 0, _, _, _ => none
  | m + 1, T, l1, l3 =>
    (sw_r2 l3 4).bind fun _u =>
    if l3 < 4 then
      (w81 T 10 l3).bind fun r50 =>
      sw_el r50 (fun r51 =>
        (sw_r1 r51.1).bind fun _u =>
        w84_122 m r51.2 ((31 * l1) + r51.1) (l3 + 1)
      ) (fun E52 =>
      none)
    else
      some ((T, l1))
def w84 (T : sw_T) : Option (Int × sw_T) :=
  (w84_6 T sw_N 3319 0).bind fun x10 =>
  (w84_33 T sw_N x10 0).bind fun x21 =>
  (w85 T x21).bind fun r24 =>
  (w86 T r24).bind fun r26 =>
  (w78 T).bind fun r28 =>
  (sw_r1 r28.1).bind fun _u =>
  (w79 r28.2).bind fun r31 =>
  (sw_r1 r31.1).bind fun _u =>
  (w80 r31.2 1).bind fun r34 =>
  sw_el r34 (fun r35 =>
    (sw_r1 r35.1).bind fun _u =>
    (w80 r35.2 9).bind fun r41 =>
    sw_el r41 (fun r42 =>
      (sw_r1 r42.1).bind fun _u =>
      (w84_122 sw_N r42.2 ((31 * ((31 * ((31 * ((31 * r26) + r28.1)) + r31.1)) + r35.1)) + r42.1) 0).bind fun x56 =>
      (w82 x56.1).bind fun r59 =>
      (w88 x56.1 r59).bind fun r61 =>
      (w83 x56.1).bind fun r63 =>
      (w89 x56.1 r63).bind fun r65 =>
      (sw_r1 r65).bind fun _u =>
      (sw_r1 (x56.1 0 5)).bind fun _u =>
      if (x56.1 0 5) = 0 then
        (sw_r1 0).bind fun _u =>
        (w87 x56.1 ((31 * ((31 * ((31 * x56.2) + r61)) + r65)) + 0)).bind fun r71 =>
        some ((r71, x56.1))
      else
        (sw_r1 1).bind fun _u =>
        (w87 x56.1 ((31 * ((31 * ((31 * x56.2) + r61)) + r65)) + 1)).bind fun r74 =>
        some ((r74, x56.1))
    ) (fun E43 =>
    none)
  ) (fun E36 =>
  none)
def w95 (T : sw_T) : Option (Int) :=
  some ((T 221 0))
def w96 (T : sw_T) (p0 : Int) (p1 : Int) (p2 : Int) : Option (Int) :=
  (sw_r2 p0 p1).bind fun _u =>
  if p0 < p1 then
    some (0)
  else
    (sw_r2 p0 p2).bind fun _u =>
    if p2 < p0 then
      some (0)
    else
      some (1)
def w97 (T : sw_T) (p1 : Int) : Option (Int × sw_T) :=
  (sw_pf T 221 0 p1).bind fun T1 =>
  some ((0, T1))
def w98 (T : sw_T) (p1 : Int) (p2 : Int) : Option (Int) :=
  (sw_ld T 222 543 ((8 + (9 * p1)) + p2)).bind fun v2 =>
  some (v2)
def w99 (T : sw_T) (p1 : Int) (p2 : Int) (p3 : Int) : Option (sw_T) :=
  (sw_st T 222 543 ((8 + (9 * p1)) + p2) p3).bind fun T2 =>
  some (T2)
def w100 (T : sw_T) (p1 : Int) (p2 : Int) : Option (sw_T) :=
  (sw_ld T 222 543 ((8 + (9 * p1)) + p2)).bind fun v2 =>
  (sw_st T 222 543 ((8 + (9 * p1)) + p2) (v2 + 1)).bind fun T4 =>
  some (T4)
def w101 (T : sw_T) (p1 : Int) (p2 : Int) : Option (Int) :=
  (sw_ld T 222 543 ((71 + (16 * p1)) + p2)).bind fun v2 =>
  some (v2)
def w102 (T : sw_T) (p1 : Int) (p2 : Int) : Option (Int) :=
  (sw_ld T 222 543 ((183 + (3 * p1)) + p2)).bind fun v2 =>
  some (v2)
def w103 (T : sw_T) (p1 : Int) (p2 : Int) (p3 : Int) : Option (sw_T) :=
  (sw_st T 222 543 ((183 + (3 * p1)) + p2) p3).bind fun T2 =>
  some (T2)
def w104 (T : sw_T) (p1 : Int) : Option (Int) :=
  (sw_ld T 222 543 4).bind fun v2 =>
  (w96 T p1 0 (v2 - 1)).bind fun r4 =>
  (sw_b1 r4).bind fun _u =>
  some (r4)
def w105_11 : Nat → sw_T → Int → Option (sw_T)
  | 0, _, _ => none
  | m + 1, T, l1 =>
    (sw_r2 l1 2715).bind fun _u =>
    if l1 < 2715 then
      (sw_ld T 224 3258 (l1 + 543)).bind fun v6 =>
      (sw_st T 224 3258 l1 v6).bind fun T8 =>
      w105_11 m T8 (l1 + 1)
    else
      some (T)
def w105_52 : Nat → sw_T → Int → Option (sw_T)
  | 0, _, _ => none
  | m + 1, T, l1 =>
    (sw_r2 l1 543).bind fun _u =>
    if l1 < 543 then
      (sw_ld T 222 543 l1).bind fun v16 =>
      (sw_st T 224 3258 ((543 * (T 221 4)) + l1) v16).bind fun T18 =>
      w105_52 m T18 (l1 + 1)
    else
      some (T)
def w105_50 (T : sw_T) : Option (sw_T) :=
  (w105_52 sw_N T 0).bind fun x19 =>
  (sw_pf x19 221 4 ((x19 221 4) + 1)).bind fun T21 =>
  some (T21)
def w105 (T : sw_T) : Option (sw_T) :=
  (sw_r2 (T 221 4) 6).bind fun _u =>
  if (T 221 4) = 6 then
    (w105_11 sw_N T 0).bind fun x9 =>
    (sw_pf x9 221 4 ((x9 221 4) - 1)).bind fun T11 =>
    w105_50 T11
  else
    w105_50 T
def w106_2 : Nat → sw_T → Int → Option (sw_T)
  | 0, _, _ => none
  | m + 1, T, l1 =>
    (sw_r2 l1 543).bind fun _u =>
    if l1 < 543 then
      (sw_ld T 222 543 l1).bind fun v4 =>
      (sw_st T 223 543 l1 v4).bind fun T6 =>
      w106_2 m T6 (l1 + 1)
    else
      some (T)
def w106 (T : sw_T) : Option (sw_T) :=
  (w106_2 sw_N T 0).bind fun x7 =>
  some (x7)
def w107_2 : Nat → sw_T → Int → Option (sw_T)
  | 0, _, _ => none
  | m + 1, T, l1 =>
    (sw_r2 l1 543).bind fun _u =>
    if l1 < 543 then
      (sw_ld T 223 543 l1).bind fun v4 =>
      (sw_st T 222 543 l1 v4).bind fun T6 =>
      w107_2 m T6 (l1 + 1)
    else
      some (T)
def w107 (T : sw_T) : Option (sw_T) :=
  (w107_2 sw_N T 0).bind fun x7 =>
  some (x7)
def w108_2 (T : sw_T) : Nat → Int → Option (Int)
  | 0, _ => none
  | m + 1, l1 =>
    (sw_ld T 222 543 4).bind fun v2 =>
    (sw_r2 l1 v2).bind fun _u =>
    if l1 < v2 then
      (w98 T l1 3).bind fun r6 =>
      (sw_r1 r6).bind fun _u =>
      if r6 = 0 then
        w108_2 T m (l1 + 1)
      else
        some (l1)
    else
      some (l1)
def w108_27 (T : sw_T) (l1 : Int) : Option (sw_T) :=
  (sw_ld T 222 543 4).bind fun v12 =>
  (sw_r2 l1 v12).bind fun _u =>
  if l1 < v12 then
    (w99 T l1 3 0).bind fun r16 =>
    (w99 r16 l1 2 0).bind fun r18 =>
    some (r18)
  else
    some (T)
def w108 (T : sw_T) : Option (sw_T) :=
  (w108_2 T sw_N 0).bind fun x9 =>
  w108_27 T x9
def w109 (T : sw_T) (p1 : Int) (p2 : Int) : Option (Int × sw_T) :=
  (sw_ld T 222 543 5).bind fun v2 =>
  (sw_ld T 222 543 5).bind fun v4 =>
  (sw_st T 222 543 5 (v4 + 1)).bind fun T6 =>
  (w103 T6 v2 0 p2).bind fun r8 =>
  (w103 r8 v2 1 0).bind fun r10 =>
  (w103 r10 v2 2 p1).bind fun r12 =>
  (w98 r12 p1 8).bind fun r14 =>
  (sw_st r12 222 543 ((71 + (16 * p1)) + r14) v2).bind fun T16 =>
  (w100 T16 p1 8).bind fun r18 =>
  (w108 r18).bind fun r20 =>
  some ((v2, r20))
def w110 (T : sw_T) (p1 : Int) (p2 : Int) : Option (sw_T) :=
  (w99 T p1 1 (p2 + 1)).bind fun r2 =>
  (w99 r2 p1 2 0).bind fun r4 =>
  (w103 r4 p2 1 1).bind fun r6 =>
  (w103 r6 p2 2 p1).bind fun r8 =>
  (sw_ld r8 222 543 7).bind fun v10 =>
  (sw_st r8 222 543 7 (v10 + 1)).bind fun T12 =>
  (w102 T12 p2 0).bind fun r14 =>
  (sw_ld T12 222 543 0).bind fun v16 =>
  (sw_r2 r14 v16).bind fun _u =>
  if v16 < r14 then
    (sw_ld T12 222 543 5).bind fun v20 =>
    (sw_r2 v20 120).bind fun _u =>
    if v20 < 120 then
      (sw_dv r14 2).bind fun _u =>
      (w103 T12 p2 0 (r14 - (r14 / 2))).bind fun r25 =>
      (sw_ld r25 222 543 6).bind fun v27 =>
      (sw_st r25 222 543 6 (v27 + 1)).bind fun T29 =>
      (sw_dv r14 2).bind fun _u =>
      (w109 T29 p1 (r14 / 2)).bind fun r32 =>
      some (r32.2)
    else
      some (T12)
  else
    some (T12)
def w111 (T : sw_T) (p1 : Int) : Option (sw_T) :=
  (w98 T p1 8).bind fun r2 =>
  (w99 T p1 8 (r2 - 1)).bind fun r4 =>
  (w98 r4 p1 8).bind fun r6 =>
  (w101 r4 p1 r6).bind fun r8 =>
  (w110 r4 p1 r8).bind fun r10 =>
  some (r10)
def w112_26 (l1 : Int) (l2 : Int) (l3 : Int) : Nat → sw_T → Int → Option (sw_T)
  | 0, _, _ => none
  | m + 1, T, l4 =>
    (w98 T l2 8).bind fun r8 =>
    (sw_r2 l4 r8).bind fun _u =>
    if l4 < r8 then
      (w101 T l2 (l4 + 1)).bind fun r12 =>
      (sw_st T 222 543 ((71 + (16 * l2)) + l4) r12).bind fun T14 =>
      w112_26 l1 l2 l3 m T14 (l4 + 1)
    else
      some (T)
def w112 (T : sw_T) (p1 : Int) (p2 : Int) : Option (sw_T) :=
  (w101 T p2 0).bind fun r2 =>
  (w98 T p2 8).bind fun r4 =>
  (w99 T p2 8 (r4 - 1)).bind fun r6 =>
  (w112_26 p1 p2 r2 sw_N r6 0).bind fun x15 =>
  (w100 x15 p1 5).bind fun r18 =>
  (w110 r18 p1 r2).bind fun r20 =>
  some (r20)
def w113_32 (T : sw_T) (l1 : Int) (l2 : Int) (l3 : Int) (s0 : Int) : Option (Int) :=
  (sw_r2 l1 l2).bind fun _u =>
  if l1 = l2 then
    some (0)
  else
    (sw_r2 l3 1).bind fun _u =>
    if 1 < l3 then
      some (1)
    else
      (sw_r2 l3 1).bind fun _u =>
      if l3 = 1 then
        (sw_r1 s0).bind fun _u =>
        if s0 = 0 then
          some (0)
        else
          some (1)
      else
        some (0)
def w113_27 (T : sw_T) (l1 : Int) (l2 : Int) (l3 : Int) : Option (Int) :=
  w113_32 T l1 l2 l3 1
def w113 (T : sw_T) (p1 : Int) (p2 : Int) : Option (Int) :=
  (w98 T p2 8).bind fun r2 =>
  (w98 T p2 3).bind fun r4 =>
  (sw_r2 r4 1).bind fun _u =>
  if r4 = 1 then
    w113_27 T p1 p2 r2
  else
    (w98 T p2 1).bind fun r16 =>
    (sw_r1 r16).bind fun _u =>
    if 0 < r16 then
      w113_27 T p1 p2 r2
    else
      w113_32 T p1 p2 r2 0
def w114 (T : sw_T) (p1 : Int) (p2 : Int) (p3 : Int) : Option (Int) :=
  (sw_ld T 222 543 1).bind fun v2 =>
  (sw_r1 v2).bind fun _u =>
  if v2 = 0 then
    (w98 T p2 8).bind fun r6 =>
    (w98 T p3 8).bind fun r8 =>
    (sw_r2 r6 r8).bind fun _u =>
    if r8 < r6 then
      some (1)
    else
      some (0)
  else
  if v2 = 1 then
    (sw_ld T 222 543 4).bind fun v13 =>
    (sw_ld T 222 543 4).bind fun v15 =>
    (sw_dv ((p2 - p1) + v13) v15).bind fun _u =>
    (sw_ld T 222 543 4).bind fun v18 =>
    (sw_ld T 222 543 4).bind fun v20 =>
    (sw_dv ((p3 - p1) + v18) v20).bind fun _u =>
    (sw_r2 (((p2 - p1) + v13) % v15) (((p3 - p1) + v18) % v20)).bind fun _u =>
    if (((p2 - p1) + v13) % v15) < (((p3 - p1) + v18) % v20) then
      some (1)
    else
      some (0)
  else
    (w101 T p2 0).bind fun r25 =>
    (w102 T r25 0).bind fun r27 =>
    (w101 T p3 0).bind fun r29 =>
    (w102 T r29 0).bind fun r31 =>
    (sw_r2 r27 r31).bind fun _u =>
    if r31 < r27 then
      some (1)
    else
      some (0)
def w115_4 (T : sw_T) (l1 : Int) : Nat → Int → Int → Option (Int)
  | 0, _, _ => none
  | m + 1, l2, l3 =>
    (sw_ld T 222 543 4).bind fun v2 =>
    (sw_r2 l3 v2).bind fun _u =>
    if l3 < v2 then
      (w113 T l1 l3).bind fun r6 =>
      (sw_r1 r6).bind fun _u =>
      if r6 = 0 then
        w115_4 T l1 m l2 (l3 + 1)
      else
        (sw_r2 l2 (-1)).bind fun _u =>
        if l2 = (-1) then
          w115_4 T l1 m l3 (l3 + 1)
        else
          (w114 T l1 l3 l2).bind fun r12 =>
          (sw_r1 r12).bind fun _u =>
          if r12 = 0 then
            w115_4 T l1 m l2 (l3 + 1)
          else
            w115_4 T l1 m l3 (l3 + 1)
    else
      some (l2)
def w115 (T : sw_T) (p1 : Int) : Option (Int) :=
  (w115_4 T p1 sw_N (-1) 0).bind fun x15 =>
  some (x15)
def w116_35 (T : sw_T) (l1 : Int) (l2 : Int) (l3 : Int) (s1 : Int) (s2 : Int) (s3 : Int) : Option (sw_T) :=
  (w103 T s1 s2 s3).bind fun r10 =>
  (sw_r1 l3).bind fun _u =>
  if 0 < l3 then
    some (r10)
  else
    (w103 r10 l2 1 2).bind fun r14 =>
    (w99 r14 l1 1 0).bind fun r16 =>
    (w100 r16 l1 4).bind fun r18 =>
    some (r18)
def w116 (T : sw_T) (p1 : Int) : Option (sw_T) :=
  (w98 T p1 1).bind fun r2 =>
  (w102 T (r2 - 1) 0).bind fun r4 =>
  (w98 T p1 0).bind fun r6 =>
  (sw_r1 (r4 - r6)).bind fun _u =>
  if (r4 - r6) < 0 then
    w116_35 T p1 (r2 - 1) (r4 - r6) (r2 - 1) 0 0
  else
    w116_35 T p1 (r2 - 1) (r4 - r6) (r2 - 1) 0 (r4 - r6)
def w117 (T : sw_T) (p1 : Int) : Option (sw_T) :=
  (w100 T p1 2).bind fun r2 =>
  (w100 r2 p1 7).bind fun r4 =>
  (w98 r4 p1 2).bind fun r6 =>
  (sw_ld r4 222 543 2).bind fun v8 =>
  (sw_r2 r6 v8).bind fun _u =>
  if r6 < v8 then
    some (r4)
  else
    (w99 r4 p1 3 1).bind fun r12 =>
    (w99 r12 p1 2 0).bind fun r14 =>
    some (r14)
def w118_16 (T : sw_T) (l1 : Int) (s0 : Int) : Option (sw_T) :=
  (w98 T l1 3).bind fun r6 =>
  (sw_r2 r6 1).bind fun _u =>
  if r6 = 1 then
    (w100 T l1 6).bind fun r10 =>
    some (r10)
  else
    (w98 T l1 1).bind fun r12 =>
    (sw_r1 r12).bind fun _u =>
    if 0 < r12 then
      (w116 T l1).bind fun r16 =>
      some (r16)
    else
      (w98 T l1 8).bind fun r18 =>
      (sw_r1 r18).bind fun _u =>
      if 0 < r18 then
        (w111 T l1).bind fun r22 =>
        some (r22)
      else
        (sw_r2 s0 (-1)).bind fun _u =>
        if s0 = (-1) then
          (w117 T l1).bind fun r26 =>
          some (r26)
        else
          (w112 T l1 s0).bind fun r28 =>
          some (r28)
def w118 (T : sw_T) (p1 : Int) : Option (sw_T) :=
  (sw_r1 (T 221 9)).bind fun _u =>
  if (T 221 9) = 0 then
    (w115 T p1).bind fun r4 =>
    w118_16 T p1 r4
  else
    w118_16 T p1 (-1)
def w119_2 : Nat → sw_T → Int → Option (sw_T)
  | 0, _, _ => none
  | m + 1, T, l1 =>
    (sw_ld T 222 543 4).bind fun v2 =>
    (sw_r2 l1 v2).bind fun _u =>
    if l1 < v2 then
      (w118 T l1).bind fun r6 =>
      w119_2 m r6 (l1 + 1)
    else
      some (T)
def w119 (T : sw_T) : Option (sw_T) :=
  (w119_2 sw_N T 0).bind fun x7 =>
  (sw_ld x7 222 543 3).bind fun v10 =>
  (sw_st x7 222 543 3 (v10 + 1)).bind fun T12 =>
  some (T12)
def w120_2 (l1 : Int) : Nat → sw_T → Int → Option (sw_T)
  | 0, _, _ => none
  | m + 1, T, l2 =>
    (sw_r2 l2 l1).bind fun _u =>
    if l2 < l1 then
      (w119 T).bind fun r4 =>
      w120_2 l1 m r4 (l2 + 1)
    else
      some (T)
def w120 (T : sw_T) (p1 : Int) : Option (sw_T) :=
  (w120_2 p1 sw_N T 0).bind fun x5 =>
  some (x5)
def w121_4 (T : sw_T) (l1 : Int) : Nat → Int → Int → Option (Int)
  | 0, _, _ => none
  | m + 1, l2, l3 =>
    (sw_ld T 222 543 4).bind fun v2 =>
    (sw_r2 l3 v2).bind fun _u =>
    if l3 < v2 then
      (w98 T l3 l1).bind fun r6 =>
      w121_4 T l1 m (l2 + r6) (l3 + 1)
    else
      some (l2)
def w121 (T : sw_T) (p1 : Int) : Option (Int) :=
  (w121_4 T p1 sw_N 0 0).bind fun x7 =>
  some (x7)
def w122_4 (T : sw_T) : Nat → Int → Int → Option (Int)
  | 0, _, _ => none
  | m + 1, l1, l2 =>
    (sw_ld T 222 543 5).bind fun v2 =>
    (sw_r2 l2 v2).bind fun _u =>
    if l2 < v2 then
      (w102 T l2 0).bind fun r6 =>
      w122_4 T m (l1 + r6) (l2 + 1)
    else
      some (l1)
def w122 (T : sw_T) : Option (Int) :=
  (w122_4 T sw_N 0 0).bind fun x7 =>
  some (x7)
def w123_4 (T : sw_T) (l1 : Int) : Nat → Int → Int → Option (Int)
  | 0, _, _ => none
  | m + 1, l2, l3 =>
    (sw_ld T 222 543 5).bind fun v2 =>
    (sw_r2 l3 v2).bind fun _u =>
    if l3 < v2 then
      (w102 T l3 1).bind fun r6 =>
      (sw_r2 r6 l1).bind fun _u =>
      if r6 = l1 then
        w123_4 T l1 m (l2 + 1) (l3 + 1)
      else
        w123_4 T l1 m (l2 + 0) (l3 + 1)
    else
      some (l2)
def w123 (T : sw_T) (p1 : Int) : Option (Int) :=
  (w123_4 T p1 sw_N 0 0).bind fun x9 =>
  some (x9)
def w124_19 (l1 : Int) (l2 : Int) : Nat → sw_T → Int → Option (sw_T)
  | 0, _, _ => none
  | m + 1, T, l3 =>
    (sw_r2 l3 9).bind fun _u =>
    if l3 < 9 then
      (sw_r1 l3).bind fun _u =>
      if l3 = 0 then
        (w99 T l2 l3 l1).bind fun r12 =>
        w124_19 l1 l2 m r12 (l3 + 1)
      else
        (w99 T l2 l3 0).bind fun r14 =>
        w124_19 l1 l2 m r14 (l3 + 1)
    else
      some (T)
def w124 (T : sw_T) (p1 : Int) : Option (Int × sw_T) :=
  (sw_ld T 222 543 4).bind fun v2 =>
  (sw_ld T 222 543 4).bind fun v4 =>
  (sw_st T 222 543 4 (v4 + 1)).bind fun T6 =>
  (w124_19 p1 v2 sw_N T6 0).bind fun x15 =>
  some ((v2, x15))
def w125 (T : sw_T) (p1 : Int) : Option (Int × sw_T) :=
  (sw_pf T 221 0 0).bind fun T1 =>
  (w96 T1 p1 1 9).bind fun r4 =>
  (sw_r1 r4).bind fun _u =>
  if r4 = 0 then
    (w97 T1 1).bind fun r8 =>
    some ((r8.1, r8.2))
  else
    (sw_ld T1 222 543 4).bind fun v10 =>
    (sw_r2 v10 6).bind fun _u =>
    if v10 = 6 then
      (w97 T1 2).bind fun r14 =>
      some ((r14.1, r14.2))
    else
      (w105 T1).bind fun r16 =>
      (w124 r16 p1).bind fun r18 =>
      some ((r18.1, r18.2))
def w126 (T : sw_T) (p1 : Int) (p2 : Int) : Option (Int × sw_T) :=
  (sw_pf T 221 0 0).bind fun T1 =>
  (w104 T1 p1).bind fun r4 =>
  (sw_r1 r4).bind fun _u =>
  if r4 = 0 then
    (w97 T1 1).bind fun r8 =>
    some ((r8.1, r8.2))
  else
    (w96 T1 p2 1 9).bind fun r10 =>
    (sw_r1 r10).bind fun _u =>
    if r10 = 0 then
      (w97 T1 2).bind fun r14 =>
      some ((r14.1, r14.2))
    else
      (w105 T1).bind fun r16 =>
      (w98 r16 p1 0).bind fun r18 =>
      (w99 r16 p1 0 p2).bind fun r20 =>
      some ((r18, r20))
def w127 (T : sw_T) (p1 : Int) : Option (Int) :=
  (w98 T p1 8).bind fun r2 =>
  (sw_r2 r2 16).bind fun _u =>
  if r2 < 16 then
    (sw_ld T 222 543 5).bind fun v6 =>
    (sw_r2 v6 120).bind fun _u =>
    if v6 < 120 then
      some (1)
    else
      some (0)
  else
    some (0)
def w128 (T : sw_T) (p1 : Int) (p2 : Int) : Option (Int × sw_T) :=
  (sw_pf T 221 0 0).bind fun T1 =>
  (w104 T1 p1).bind fun r4 =>
  (sw_r1 r4).bind fun _u =>
  if r4 = 0 then
    (w97 T1 1).bind fun r8 =>
    some ((r8.1, r8.2))
  else
    (w96 T1 p2 1 99).bind fun r10 =>
    (sw_r1 r10).bind fun _u =>
    if r10 = 0 then
      (w97 T1 2).bind fun r14 =>
      some ((r14.1, r14.2))
    else
      (w127 T1 p1).bind fun r16 =>
      (sw_r1 r16).bind fun _u =>
      if r16 = 0 then
        (w97 T1 3).bind fun r20 =>
        some ((r20.1, r20.2))
      else
        (w105 T1).bind fun r22 =>
        (w109 r22 p1 p2).bind fun r24 =>
        some ((r24.1, r24.2))
def w129 (T : sw_T) (p1 : Int) : Option (Int × sw_T) :=
  (w98 T p1 3).bind fun r2 =>
  (w99 T p1 3 0).bind fun r4 =>
  (w99 r4 p1 2 0).bind fun r6 =>
  some ((r2, r6))
def w130 (T : sw_T) (p1 : Int) : Option (Int × sw_T) :=
  (sw_pf T 221 0 0).bind fun T1 =>
  (w104 T1 p1).bind fun r4 =>
  (sw_r1 r4).bind fun _u =>
  if r4 = 0 then
    (w97 T1 1).bind fun r8 =>
    some ((r8.1, r8.2))
  else
    (w105 T1).bind fun r10 =>
    (w129 r10 p1).bind fun r12 =>
    some ((r12.1, r12.2))
def w131 (T : sw_T) (p1 : Int) : Option (Int × sw_T) :=
  (sw_pf T 221 0 0).bind fun T1 =>
  (w96 T1 p1 1 99).bind fun r4 =>
  (sw_r1 r4).bind fun _u =>
  if r4 = 0 then
    (w97 T1 1).bind fun r8 =>
    some ((r8.1, r8.2))
  else
    (w105 T1).bind fun r10 =>
    (w121 r10 4).bind fun r12 =>
    (w120 r10 p1).bind fun r14 =>
    (w121 r14 4).bind fun r16 =>
    some (((r16 - r12), r14))
def w132_55 (T : sw_T) (l1 : Int) (l2 : Int) (s0 : Int) : Option (Int × sw_T) :=
  (sw_r1 s0).bind fun _u =>
  if s0 = 0 then
    (w97 T 2).bind fun r16 =>
    some ((r16.1, r16.2))
  else
    (w105 T).bind fun r18 =>
    (sw_ld r18 222 543 l1).bind fun v20 =>
    (sw_st r18 222 543 l1 l2).bind fun T22 =>
    some ((v20, T22))
def w132 (T : sw_T) (p1 : Int) (p2 : Int) : Option (Int × sw_T) :=
  (sw_pf T 221 0 0).bind fun T1 =>
  (w96 T1 p1 0 2).bind fun r4 =>
  (sw_r1 r4).bind fun _u =>
  if r4 = 0 then
    (w97 T1 1).bind fun r8 =>
    some ((r8.1, r8.2))
  else
    (sw_r1 p1).bind fun _u =>
    if p1 = 0 then
      (w96 T1 p2 2 99).bind fun r12 =>
      w132_55 T1 p1 p2 r12
    else
      (sw_r2 p1 1).bind fun _u =>
      if p1 = 1 then
        (w96 T1 p2 0 2).bind fun r26 =>
        w132_55 T1 p1 p2 r26
      else
        (w96 T1 p2 1 20).bind fun r28 =>
        w132_55 T1 p1 p2 r28
def w133 (T : sw_T) (p1 : Int) : Option (Int × sw_T) :=
  (sw_pf T 221 0 0).bind fun T1 =>
  (w96 T1 p1 33 126).bind fun r4 =>
  (sw_r1 r4).bind fun _u =>
  if r4 = 0 then
    (w97 T1 1).bind fun r8 =>
    some ((r8.1, r8.2))
  else
    (sw_r2 (T1 221 8) 60).bind fun _u =>
    if (T1 221 8) = 60 then
      (w97 T1 2).bind fun r12 =>
      some ((r12.1, r12.2))
    else
      (sw_st T1 226 60 (T1 221 8) p1).bind fun T14 =>
      (sw_pf T14 221 8 ((T14 221 8) + 1)).bind fun T15 =>
      some (((T15 221 8), T15))
def w134 (T : sw_T) : Option (Int × sw_T) :=
  (sw_pf T 221 0 0).bind fun T1 =>
  (sw_pf T1 221 8 0).bind fun T3 =>
  some (((T1 221 8), T3))
def w135 (T : sw_T) : Option (Int) :=
  (sw_r2 (T 221 10) (T 221 8)).bind fun _u =>
  if (T 221 10) < (T 221 8) then
    (sw_ld T 226 60 (T 221 10)).bind fun v4 =>
    some (v4)
  else
    some (0)
def w136_25 (T : sw_T) (s1 : Int) : Option (Int × sw_T) :=
  (sw_pb T 221 11 s1).bind fun T3 =>
  (w135 T3).bind fun r6 =>
  (sw_r1 (T3 221 11)).bind fun _u =>
  if (T3 221 11) = 0 then
    (sw_pf T3 221 10 ((T3 221 10) + 0)).bind fun T9 =>
    some (((r6 - 48), T9))
  else
    (sw_pf T3 221 10 ((T3 221 10) + 1)).bind fun T11 =>
    some (((r6 - 48), T11))
def w136_24 (T : sw_T) : Option (Int × sw_T) :=
  w136_25 T 0
def w136 (T : sw_T) (p1 : Int) (p2 : Int) : Option (Int × sw_T) :=
  (sw_r1 (T 221 11)).bind fun _u =>
  if (T 221 11) = 0 then
    w136_24 T
  else
    (w135 T).bind fun r14 =>
    (w96 T r14 p1 p2).bind fun r16 =>
    (sw_r1 r16).bind fun _u =>
    if r16 = 0 then
      w136_24 T
    else
      w136_25 T 1
def w137 (T : sw_T) : Option (Int × sw_T) :=
  (w136 T 49 57).bind fun r2 =>
  (sw_r1 (r2.2 221 11)).bind fun _u =>
  if (r2.2 221 11) = 0 then
    some ((r2.1, r2.2))
  else
    (w135 r2.2).bind fun r6 =>
    (w96 r2.2 r6 48 57).bind fun r8 =>
    (sw_r1 r8).bind fun _u =>
    if r8 = 0 then
      some ((r2.1, r2.2))
    else
      (w136 r2.2 48 57).bind fun r12 =>
      some ((((10 * r2.1) + r12.1), r12.2))
def w138_151 (T : sw_T) (l1 : Int) (l2 : Int) : Option (sw_T) :=
  (sw_r2 l2 118).bind fun _u =>
  if l2 = 118 then
    (w136 T 49 57).bind fun r30 =>
    (sw_st r30.2 227 100 (l1 + 2) r30.1).bind fun T32 =>
    (sw_r1 (T32 221 11)).bind fun _u =>
    if (T32 221 11) = 0 then
      (sw_pf T32 221 13 ((T32 221 13) + 0)).bind fun T35 =>
      some (T35)
    else
      (sw_pf T32 221 13 ((T32 221 13) + 1)).bind fun T37 =>
      some (T37)
  else
    (sw_r2 l2 119).bind fun _u =>
    if l2 = 119 then
      (sw_st T 227 100 (l1 + 2) 0).bind fun T42 =>
      (sw_r1 (T42 221 11)).bind fun _u =>
      if (T42 221 11) = 0 then
        (sw_pf T42 221 13 ((T42 221 13) + 0)).bind fun T45 =>
        some (T45)
      else
        (sw_pf T42 221 13 ((T42 221 13) + 1)).bind fun T47 =>
        some (T47)
    else
      (w137 T).bind fun r50 =>
      (sw_st r50.2 227 100 (l1 + 2) r50.1).bind fun T52 =>
      (sw_r1 (T52 221 11)).bind fun _u =>
      if (T52 221 11) = 0 then
        (sw_pf T52 221 13 ((T52 221 13) + 0)).bind fun T55 =>
        some (T55)
      else
        (sw_pf T52 221 13 ((T52 221 13) + 1)).bind fun T57 =>
        some (T57)
def w138_147 (T : sw_T) (l1 : Int) (l2 : Int) (s1 : Int) (s2 : Int) : Option (sw_T) :=
  (sw_pf T 221 10 (s1 + s2)).bind fun T25 =>
  w138_151 T25 l1 l2
def w138_127 (T : sw_T) (l1 : Int) (l2 : Int) (s1 : Int) : Option (sw_T) :=
  (sw_pb T 221 11 s1).bind fun T21 =>
  (sw_r1 (T21 221 11)).bind fun _u =>
  if (T21 221 11) = 0 then
    w138_147 T21 l1 l2 (T21 221 10) 0
  else
    w138_147 T21 l1 l2 (T21 221 10) 1
def w138_126 (T : sw_T) (l1 : Int) (l2 : Int) : Option (sw_T) :=
  w138_127 T l1 l2 0
def w138_98 (T : sw_T) (l1 : Int) (l2 : Int) (s1 : Int) (s2 : Int) : Option (sw_T) :=
  (sw_st T 227 100 s1 s2).bind fun T16 =>
  (sw_r2 l2 108).bind fun _u =>
  if l2 = 108 then
    (sw_r1 (T16 221 11)).bind fun _u =>
    if (T16 221 11) = 0 then
      w138_126 T16 l1 l2
    else
      (w135 T16).bind fun r60 =>
      (sw_r2 r60 46).bind fun _u =>
      if r60 = 46 then
        w138_127 T16 l1 l2 1
      else
        w138_126 T16 l1 l2
  else
    w138_151 T16 l1 l2
def w138_62 (T : sw_T) (l1 : Int) (l2 : Int) (s1 : Int) (s2 : Int) : Option (sw_T) :=
  (sw_pf T 221 10 (s1 + s2)).bind fun T9 =>
  (sw_st T9 227 100 l1 l2).bind fun T12 =>
  (sw_r2 l2 109).bind fun _u =>
  if l2 = 109 then
    w138_98 T12 l1 l2 (l1 + 1) 0
  else
    (w136 T12 48 53).bind fun r64 =>
    w138_98 r64.2 l1 l2 (l1 + 1) r64.1
def w138_42 (T : sw_T) (l1 : Int) (l2 : Int) (s1 : Int) : Option (sw_T) :=
  (sw_pb T 221 11 s1).bind fun T5 =>
  (sw_r1 (T5 221 11)).bind fun _u =>
  if (T5 221 11) = 0 then
    w138_62 T5 l1 l2 (T5 221 10) 0
  else
    w138_62 T5 l1 l2 (T5 221 10) 1
def w138_37 (T : sw_T) (l1 : Int) (l2 : Int) : Option (sw_T) :=
  w138_42 T l1 l2 1
def w138 (T : sw_T) : Option (sw_T) :=
  (w135 T).bind fun r2 =>
  (sw_r2 r2 108).bind fun _u =>
  if r2 = 108 then
    w138_37 T (3 * (T 221 13)) r2
  else
    (sw_r2 r2 118).bind fun _u =>
    if r2 = 118 then
      w138_37 T (3 * (T 221 13)) r2
    else
      (sw_r2 r2 119).bind fun _u =>
      if r2 = 119 then
        w138_37 T (3 * (T 221 13)) r2
      else
        (sw_r2 r2 109).bind fun _u =>
        if r2 = 109 then
          w138_37 T (3 * (T 221 13)) r2
        else
          w138_42 T (3 * (T 221 13)) r2 0
def w139_14 : Nat → sw_T → Option (sw_T)
  | 0, _ => none
  | m + 1, T =>
    (sw_r1 (T 221 11)).bind fun _u =>
    if (T 221 11) = 0 then
      some (T)
    else
      (sw_r2 (T 221 10) (T 221 8)).bind fun _u =>
      if (T 221 10) < (T 221 8) then
        (w135 T).bind fun r12 =>
        (sw_r2 r12 59).bind fun _u =>
        if r12 = 59 then
          (sw_pb T 221 11 1).bind fun T15 =>
          (sw_r1 (T15 221 11)).bind fun _u =>
          if (T15 221 11) = 0 then
            (sw_pf T15 221 10 ((T15 221 10) + 0)).bind fun T19 =>
            (sw_r1 (T19 221 11)).bind fun _u =>
            if (T19 221 11) = 0 then
              w139_14 m T19
            else
              (w138 T19).bind fun r24 =>
              w139_14 m r24
          else
            (sw_pf T15 221 10 ((T15 221 10) + 1)).bind fun T25 =>
            (sw_r1 (T25 221 11)).bind fun _u =>
            if (T25 221 11) = 0 then
              w139_14 m T25
            else
              (w138 T25).bind fun r30 =>
              w139_14 m r30
        else
          (sw_pb T 221 11 0).bind fun T31 =>
          (sw_r1 (T31 221 11)).bind fun _u =>
          if (T31 221 11) = 0 then
            (sw_pf T31 221 10 ((T31 221 10) + 0)).bind fun T35 =>
            (sw_r1 (T35 221 11)).bind fun _u =>
            if (T35 221 11) = 0 then
              w139_14 m T35
            else
              (w138 T35).bind fun r40 =>
              w139_14 m r40
          else
            (sw_pf T31 221 10 ((T31 221 10) + 1)).bind fun T41 =>
            (sw_r1 (T41 221 11)).bind fun _u =>
            if (T41 221 11) = 0 then
              w139_14 m T41
            else
              (w138 T41).bind fun r46 =>
              w139_14 m r46
      else
        some (T)
def w139 (T : sw_T) : Option (sw_T) :=
  (sw_pf T 221 10 0).bind fun T1 =>
  (sw_pf T1 221 13 0).bind fun T3 =>
  (w138 T3).bind fun r6 =>
  (w139_14 sw_N r6).bind fun x47 =>
  some (x47)
def w140 (T : sw_T) : Option (Int × sw_T) :=
  (sw_pf T 221 0 0).bind fun T1 =>
  (w139 T1).bind fun r4 =>
  some (((r4 221 10), r4))
def w141_61 (T : sw_T) (l1 : Int) (l2 : Int) (l3 : Int) (s0 : Int) : Option (Int × sw_T) :=
  (sw_r1 s0).bind fun _u =>
  if s0 = 0 then
    (sw_b1 s0).bind fun _u =>
    some ((s0, T))
  else
    (sw_ld T 227 100 l1).bind fun v13 =>
    (sw_r1 v13).bind fun _u =>
    if v13 = 108 then
      (w109 T l2 l3).bind fun r17 =>
      (sw_b1 s0).bind fun _u =>
      some ((s0, r17.2))
    else
    if v13 = 118 then
      (w99 T l2 0 l3).bind fun r21 =>
      (sw_b1 s0).bind fun _u =>
      some ((s0, r21))
    else
    if v13 = 119 then
      (w129 T l2).bind fun r25 =>
      (sw_b1 s0).bind fun _u =>
      some ((s0, r25.2))
    else
      (w120 T l3).bind fun r28 =>
      (sw_b1 s0).bind fun _u =>
      some ((s0, r28))
def w141_56 (T : sw_T) (l1 : Int) (l2 : Int) (l3 : Int) : Option (Int × sw_T) :=
  w141_61 T l1 l2 l3 1
def w141_60 (T : sw_T) (l1 : Int) (l2 : Int) (l3 : Int) : Option (Int × sw_T) :=
  w141_61 T l1 l2 l3 0
def w141 (T : sw_T) (p1 : Int) : Option (Int × sw_T) :=
  (sw_ld T 227 100 (p1 + 1)).bind fun v2 =>
  (sw_ld T 227 100 (p1 + 2)).bind fun v4 =>
  (sw_ld T 227 100 p1).bind fun v6 =>
  (sw_r2 v6 109).bind fun _u =>
  if v6 = 109 then
    w141_56 T p1 v2 v4
  else
    (w104 T v2).bind fun r31 =>
    (sw_r1 r31).bind fun _u =>
    if r31 = 0 then
      w141_60 T p1 v2 v4
    else
      (sw_ld T 227 100 p1).bind fun v35 =>
      (sw_r2 v35 108).bind fun _u =>
      if v35 = 108 then
        (w127 T v2).bind fun r39 =>
        (sw_r1 r39).bind fun _u =>
        if r39 = 0 then
          w141_60 T p1 v2 v4
        else
          w141_56 T p1 v2 v4
      else
        w141_56 T p1 v2 v4
def w142_33 : Nat → sw_T → Int → Option (sw_T × Int)
  | 0, _, _ => none
  | m + 1, T, l1 =>
    (sw_r2 l1 (T 221 13)).bind fun _u =>
    if l1 < (T 221 13) then
      (w141 T (3 * l1)).bind fun r16 =>
      (sw_r1 r16.1).bind fun _u =>
      if r16.1 = 0 then
        some ((r16.2, l1))
      else
        w142_33 m r16.2 (l1 + 1)
    else
      some ((T, l1))
def w142 (T : sw_T) : Option (Int × sw_T) :=
  (sw_pf T 221 0 0).bind fun T1 =>
  (w139 T1).bind fun r4 =>
  (sw_r1 (r4 221 11)).bind fun _u =>
  if (r4 221 11) = 0 then
    (w97 r4 1).bind fun r8 =>
    some ((r8.1, r8.2))
  else
    (w105 r4).bind fun r10 =>
    (sw_pf r10 221 8 0).bind fun T11 =>
    (w142_33 sw_N T11 0).bind fun x19 =>
    some ((x19.2, x19.1))
def w143_7 : Nat → sw_T → Int → Option (sw_T)
  | 0, _, _ => none
  | m + 1, T, l1 =>
    (sw_r2 l1 543).bind fun _u =>
    if l1 < 543 then
      (sw_ld T 222 543 l1).bind fun v6 =>
      (sw_st T 225 543 l1 v6).bind fun T8 =>
      w143_7 m T8 (l1 + 1)
    else
      some (T)
def w143 (T : sw_T) : Option (Int × sw_T) :=
  (sw_pf T 221 0 0).bind fun T1 =>
  (w143_7 sw_N T1 0).bind fun x9 =>
  (sw_pb x9 221 6 1).bind fun T11 =>
  (sw_ld T11 222 543 3).bind fun v14 =>
  some ((v14, T11))
def w144_24 : Nat → sw_T → Int → Option (sw_T)
  | 0, _, _ => none
  | m + 1, T, l1 =>
    (sw_r2 l1 543).bind fun _u =>
    if l1 < 543 then
      (sw_ld T 225 543 l1).bind fun v12 =>
      (sw_st T 222 543 l1 v12).bind fun T14 =>
      w144_24 m T14 (l1 + 1)
    else
      some (T)
def w144 (T : sw_T) : Option (Int × sw_T) :=
  (sw_pf T 221 0 0).bind fun T1 =>
  (sw_r1 (T1 221 6)).bind fun _u =>
  if (T1 221 6) = 0 then
    (w97 T1 1).bind fun r6 =>
    some ((r6.1, r6.2))
  else
    (w105 T1).bind fun r8 =>
    (w144_24 sw_N r8 0).bind fun x15 =>
    (sw_ld x15 222 543 3).bind fun v18 =>
    some ((v18, x15))
def w145_30 : Nat → sw_T → Int → Option (sw_T)
  | 0, _, _ => none
  | m + 1, T, l1 =>
    (sw_r2 l1 543).bind fun _u =>
    if l1 < 543 then
      (sw_ld T 224 3258 ((543 * (T 221 4)) + l1)).bind fun v12 =>
      (sw_st T 222 543 l1 v12).bind fun T14 =>
      w145_30 m T14 (l1 + 1)
    else
      some (T)
def w145 (T : sw_T) : Option (Int × sw_T) :=
  (sw_pf T 221 0 0).bind fun T1 =>
  (sw_r1 (T1 221 4)).bind fun _u =>
  if (T1 221 4) = 0 then
    (w97 T1 1).bind fun r6 =>
    some ((r6.1, r6.2))
  else
    (sw_pf T1 221 4 ((T1 221 4) - 1)).bind fun T7 =>
    (w145_30 sw_N T7 0).bind fun x15 =>
    some (((x15 221 4), x15))
def w146_29 (T : sw_T) (l1 : Int) : Nat → Int → Int → Option (Int)
  | 0, _, _ => none
  | m + 1, l2, l3 =>
    (w98 T l1 8).bind fun r10 =>
    (sw_r2 l3 r10).bind fun _u =>
    if l3 < r10 then
      (w101 T l1 l3).bind fun r14 =>
      (w102 T r14 0).bind fun r16 =>
      w146_29 T l1 m (l2 + r16) (l3 + 1)
    else
      some (l2)
def w146_26 (T : sw_T) (l1 : Int) (s0 : Int) : Option (Int) :=
  (w146_29 T l1 sw_N s0 0).bind fun x17 =>
  some (x17)
def w146 (T : sw_T) (p1 : Int) : Option (Int) :=
  (w98 T p1 1).bind fun r2 =>
  (sw_r1 r2).bind fun _u =>
  if 0 < r2 then
    (w98 T p1 1).bind fun r6 =>
    (w102 T (r6 - 1) 0).bind fun r8 =>
    w146_26 T p1 r8
  else
    w146_26 T p1 0
def w147 (T : sw_T) (p1 : Int) (p2 : Int) : Option (Int) :=
  (sw_r1 p2).bind fun _u =>
  if p2 = 0 then
    (w98 T p1 0).bind fun r4 =>
    some (r4)
  else
  if p2 = 1 then
    (w98 T p1 8).bind fun r7 =>
    some (r7)
  else
  if p2 = 2 then
    (w98 T p1 1).bind fun r10 =>
    some ((r10 - 1))
  else
  if p2 = 9 then
    (w146 T p1).bind fun r13 =>
    some (r13)
  else
    (w98 T p1 (p2 - 1)).bind fun r15 =>
    some (r15)
def w148 (T : sw_T) (p1 : Int) (p2 : Int) : Option (Int × sw_T) :=
  (sw_pf T 221 0 0).bind fun T1 =>
  (w104 T1 p1).bind fun r4 =>
  (sw_r1 r4).bind fun _u =>
  if r4 = 0 then
    (w97 T1 1).bind fun r8 =>
    some ((r8.1, r8.2))
  else
    (w96 T1 p2 0 9).bind fun r10 =>
    (sw_r1 r10).bind fun _u =>
    if r10 = 0 then
      (w97 T1 2).bind fun r14 =>
      some ((r14.1, r14.2))
    else
      (w147 T1 p1 p2).bind fun r16 =>
      some ((r16, T1))
def w149 (T : sw_T) (p1 : Int) (p2 : Int) : Option (Int × sw_T) :=
  (sw_pf T 221 0 0).bind fun T1 =>
  (w104 T1 p1).bind fun r4 =>
  (sw_r1 r4).bind fun _u =>
  if r4 = 0 then
    (w97 T1 1).bind fun r8 =>
    some ((r8.1, r8.2))
  else
    (sw_r1 p2).bind fun _u =>
    if p2 < 0 then
      (w97 T1 2).bind fun r12 =>
      some ((r12.1, r12.2))
    else
      (w98 T1 p1 8).bind fun r14 =>
      (sw_r2 p2 r14).bind fun _u =>
      if p2 < r14 then
        (w101 T1 p1 p2).bind fun r18 =>
        some ((r18, T1))
      else
        some (((-1), T1))
def w150 (T : sw_T) (p1 : Int) (p2 : Int) : Option (Int × sw_T) :=
  (sw_pf T 221 0 0).bind fun T1 =>
  (sw_ld T1 222 543 5).bind fun v4 =>
  (w96 T1 p1 0 (v4 - 1)).bind fun r6 =>
  (sw_r1 r6).bind fun _u =>
  if r6 = 0 then
    (w97 T1 1).bind fun r10 =>
    some ((r10.1, r10.2))
  else
    (w96 T1 p2 0 2).bind fun r12 =>
    (sw_r1 r12).bind fun _u =>
    if r12 = 0 then
      (w97 T1 2).bind fun r16 =>
      some ((r16.1, r16.2))
    else
      (w102 T1 p1 p2).bind fun r18 =>
      some ((r18, T1))
def w151 (T : sw_T) (p1 : Int) : Option (Int) :=
  (sw_r1 p1).bind fun _u =>
  if p1 = 0 then
    (sw_ld T 222 543 3).bind fun v4 =>
    some (v4)
  else
  if p1 = 1 then
    (sw_ld T 222 543 4).bind fun v7 =>
    some (v7)
  else
  if p1 = 2 then
    (sw_ld T 222 543 5).bind fun v10 =>
    some (v10)
  else
  if p1 = 3 then
    (w123 T 2).bind fun r13 =>
    some (r13)
  else
  if p1 = 4 then
    (w123 T (p1 - 4)).bind fun r16 =>
    some (r16)
  else
  if p1 = 5 then
    (w123 T (p1 - 4)).bind fun r19 =>
    some (r19)
  else
  if p1 = 6 then
    (w121 T 5).bind fun r22 =>
    some (r22)
  else
  if p1 = 7 then
    (w121 T 7).bind fun r25 =>
    some (r25)
  else
  if p1 = 8 then
    (sw_ld T 222 543 6).bind fun v28 =>
    some (v28)
  else
  if p1 = 9 then
    (w121 T 3).bind fun r31 =>
    some (r31)
  else
  if p1 = 10 then
    (w122 T).bind fun r34 =>
    some (r34)
  else
    some ((T 221 4))
def w152 (T : sw_T) (p1 : Int) : Option (Int × sw_T) :=
  (sw_pf T 221 0 0).bind fun T1 =>
  (w96 T1 p1 0 11).bind fun r4 =>
  (sw_r1 r4).bind fun _u =>
  if r4 = 0 then
    (w97 T1 1).bind fun r8 =>
    some ((r8.1, r8.2))
  else
    (w151 T1 p1).bind fun r10 =>
    some ((r10, T1))
def w153 (T : sw_T) (p1 : Int) : Option (Int × sw_T) :=
  (sw_pf T 221 0 0).bind fun T1 =>
  (w96 T1 p1 0 2).bind fun r4 =>
  (sw_r1 r4).bind fun _u =>
  if r4 = 0 then
    (w97 T1 1).bind fun r8 =>
    some ((r8.1, r8.2))
  else
    (sw_ld T1 222 543 p1).bind fun v10 =>
    some ((v10, T1))
def w154 (T : sw_T) (p1 : Int) : Option (Int × sw_T) :=
  (sw_pf T 221 0 0).bind fun T1 =>
  (w104 T1 p1).bind fun r4 =>
  (sw_r1 r4).bind fun _u =>
  if r4 = 0 then
    (w97 T1 1).bind fun r8 =>
    some ((r8.1, r8.2))
  else
    (w115 T1 p1).bind fun r10 =>
    some ((r10, T1))
def w155_2 : Nat → sw_T → Int → Option (sw_T × Int)
  | 0, _, _ => none
  | m + 1, T, l1 =>
    (sw_r2 l1 2000).bind fun _u =>
    if l1 < 2000 then
      (w123 T 2).bind fun r4 =>
      (sw_ld T 222 543 5).bind fun v6 =>
      (sw_r2 r4 v6).bind fun _u =>
      if r4 < v6 then
        (w119 T).bind fun r10 =>
        w155_2 m r10 (l1 + 1)
      else
        some ((T, l1))
    else
      some ((T, l1))
def w155 (T : sw_T) : Option (Int × sw_T) :=
  (w155_2 sw_N T 0).bind fun x11 =>
  (w123 x11.1 2).bind fun r14 =>
  (sw_ld x11.1 222 543 5).bind fun v16 =>
  (sw_r2 r14 v16).bind fun _u =>
  if r14 = v16 then
    some ((x11.2, x11.1))
  else
    some (((-1), x11.1))
def w156 (T : sw_T) (p1 : Int) (p2 : Int) : Option (Int × sw_T) :=
  (w106 T).bind fun r2 =>
  (sw_pb r2 221 9 p1).bind fun T3 =>
  (sw_r1 p2).bind fun _u =>
  if 0 < p2 then
    (w124 T3 p2).bind fun r8 =>
    (w155 r8.2).bind fun r10 =>
    (sw_pb r10.2 221 9 0).bind fun T11 =>
    (w107 T11).bind fun r14 =>
    some ((r10.1, r14))
  else
    (w155 T3).bind fun r16 =>
    (sw_pb r16.2 221 9 0).bind fun T17 =>
    (w107 T17).bind fun r20 =>
    some ((r16.1, r20))
def w157 (T : sw_T) : Option (Int × sw_T) :=
  (sw_pf T 221 0 0).bind fun T1 =>
  (w156 T1 0 0).bind fun r4 =>
  some ((r4.1, r4.2))
def w158 (T : sw_T) : Option (Int × sw_T) :=
  (sw_pf T 221 0 0).bind fun T1 =>
  (w156 T1 1 0).bind fun r4 =>
  some ((r4.1, r4.2))
def w159 (T : sw_T) (p1 : Int) : Option (Int × sw_T) :=
  (sw_pf T 221 0 0).bind fun T1 =>
  (w96 T1 p1 1 9).bind fun r4 =>
  (sw_r1 r4).bind fun _u =>
  if r4 = 0 then
    (w97 T1 1).bind fun r8 =>
    some ((r8.1, r8.2))
  else
    (w156 T1 0 p1).bind fun r10 =>
    some ((r10.1, r10.2))
def w160_19 (T : sw_T) (l1 : Int) (l2 : Int) (s0 : Int) : Option (Int × sw_T) :=
  (w106 T).bind fun r4 =>
  (w121 r4 s0).bind fun r6 =>
  (w120 r4 l1).bind fun r8 =>
  (sw_r2 l2 3).bind fun _u =>
  if l2 = 3 then
    (w122 r8).bind fun r12 =>
    (w107 r8).bind fun r14 =>
    some ((r12, r14))
  else
    (w121 r8 s0).bind fun r16 =>
    (w107 r8).bind fun r18 =>
    some (((r16 - r6), r18))
def w160 (T : sw_T) (p1 : Int) (p2 : Int) : Option (Int × sw_T) :=
  (sw_r1 p2).bind fun _u =>
  if p2 = 0 then
    w160_19 T p1 p2 4
  else
    (sw_r2 p2 1).bind fun _u =>
    if p2 = 1 then
      w160_19 T p1 p2 5
    else
      w160_19 T p1 p2 7
def w161 (T : sw_T) (p1 : Int) (p2 : Int) : Option (Int × sw_T) :=
  (sw_pf T 221 0 0).bind fun T1 =>
  (w96 T1 p1 1 200).bind fun r4 =>
  (sw_r1 r4).bind fun _u =>
  if r4 = 0 then
    (w97 T1 1).bind fun r8 =>
    some ((r8.1, r8.2))
  else
    (w96 T1 p2 0 3).bind fun r10 =>
    (sw_r1 r10).bind fun _u =>
    if r10 = 0 then
      (w97 T1 1).bind fun r14 =>
      some ((r14.1, r14.2))
    else
      (w160 T1 p1 p2).bind fun r16 =>
      some ((r16.1, r16.2))
def w162 (T : sw_T) : Option (UInt64) :=
  (sw_ld T 222 543 7).bind fun v2 =>
  (sw_r1 v2).bind fun _u =>
  if v2 = 0 then
    some ((sp_dc 0))
  else
    (w121 T 5).bind fun r6 =>
    (sw_ld T 222 543 7).bind fun v8 =>
    (sw_k64 (FP.ddiv (FP.i2d (Int32.ofInt r6)) (FP.i2d (Int32.ofInt v8)))).bind fun _u =>
    some ((FP.ddiv (FP.i2d (Int32.ofInt r6)) (FP.i2d (Int32.ofInt v8))))
def w163 (T : sw_T) : Option (UInt64 × sw_T) :=
  (sw_pf T 221 0 0).bind fun T1 =>
  (w162 T1).bind fun r4 =>
  some ((r4, T1))
def w164_14 (T : sw_T) : Nat → Int → Int → Int → Option (Int × Int)
  | 0, _, _, _ => none
  | m + 1, l1, l2, l3 =>
    (sw_ld T 222 543 4).bind fun v6 =>
    (sw_r2 l3 v6).bind fun _u =>
    if l3 < v6 then
      (w146 T l3).bind fun r10 =>
      (sw_r2 r10 l1).bind fun _u =>
      if r10 < l1 then
        (w146 T l3).bind fun r14 =>
        (w146 T l3).bind fun r16 =>
        (sw_r2 r16 l2).bind fun _u =>
        if l2 < r16 then
          (w146 T l3).bind fun r20 =>
          w164_14 T m r14 r20 (l3 + 1)
        else
          w164_14 T m r14 l2 (l3 + 1)
      else
        (w146 T l3).bind fun r22 =>
        (sw_r2 r22 l2).bind fun _u =>
        if l2 < r22 then
          (w146 T l3).bind fun r26 =>
          w164_14 T m l1 r26 (l3 + 1)
        else
          w164_14 T m l1 l2 (l3 + 1)
    else
      some ((l1, l2))
def w164 (T : sw_T) : Option (UInt32) :=
  (w146 T 0).bind fun r2 =>
  (w146 T 0).bind fun r4 =>
  (w164_14 T sw_N r2 r4 1).bind fun x27 =>
  (sw_r1 x27.2).bind fun _u =>
  if x27.2 = 0 then
    some ((sp_fc 1))
  else
    (sw_k32 (FP.fdiv (FP.i2f (Int32.ofInt x27.1)) (FP.i2f (Int32.ofInt x27.2)))).bind fun _u =>
    some ((FP.fdiv (FP.i2f (Int32.ofInt x27.1)) (FP.i2f (Int32.ofInt x27.2))))
def w165 (T : sw_T) : Option (UInt32 × sw_T) :=
  (sw_pf T 221 0 0).bind fun T1 =>
  (w164 T1).bind fun r4 =>
  some ((r4, T1))
def w166 (T : sw_T) (p1 : Int) : Option (sw_T) :=
  (sw_pf T 221 14 ((31 * (T 221 14)) + p1)).bind fun T1 =>
  some (T1)
def w167_2 (l1 : Int) : Nat → sw_T → Int → Option (sw_T)
  | 0, _, _ => none
  | m + 1, T, l2 =>
    (sw_r2 l2 10).bind fun _u =>
    if l2 < 10 then
      (w147 T l1 l2).bind fun r4 =>
      (sw_r1 r4).bind fun _u =>
      (w166 T r4).bind fun r7 =>
      w167_2 l1 m r7 (l2 + 1)
    else
      some (T)
def w167_27 (l1 : Int) : Nat → sw_T → Int → Option (sw_T)
  | 0, _, _ => none
  | m + 1, T, l2 =>
    (w98 T l1 8).bind fun r11 =>
    (sw_r2 l2 r11).bind fun _u =>
    if l2 < r11 then
      (w101 T l1 l2).bind fun r15 =>
      (sw_r1 r15).bind fun _u =>
      (w166 T r15).bind fun r18 =>
      w167_27 l1 m r18 (l2 + 1)
    else
      some (T)
def w167 (T : sw_T) (p1 : Int) : Option (sw_T) :=
  (w167_2 p1 sw_N T 0).bind fun x8 =>
  (w167_27 p1 sw_N x8 0).bind fun x19 =>
  (w115 x19 p1).bind fun r22 =>
  (sw_r1 r22).bind fun _u =>
  (w166 x19 r22).bind fun r25 =>
  some (r25)
def w168_14 : Nat → sw_T → Int → Option (sw_T)
  | 0, _, _ => none
  | m + 1, T, l1 =>
    (sw_r2 l1 12).bind fun _u =>
    if l1 < 12 then
      (w151 T l1).bind fun r8 =>
      (sw_r1 r8).bind fun _u =>
      (w166 T r8).bind fun r11 =>
      w168_14 m r11 (l1 + 1)
    else
      some (T)
def w168_38 : Nat → sw_T → Int → Option (sw_T)
  | 0, _, _ => none
  | m + 1, T, l1 =>
    (sw_r2 l1 3).bind fun _u =>
    if l1 < 3 then
      (sw_ld T 222 543 l1).bind fun v17 =>
      (sw_r1 v17).bind fun _u =>
      (w166 T v17).bind fun r20 =>
      w168_38 m r20 (l1 + 1)
    else
      some (T)
def w168_62 : Nat → sw_T → Int → Option (sw_T)
  | 0, _, _ => none
  | m + 1, T, l1 =>
    (sw_ld T 222 543 4).bind fun v24 =>
    (sw_r2 l1 v24).bind fun _u =>
    if l1 < v24 then
      (w167 T l1).bind fun r28 =>
      w168_62 m r28 (l1 + 1)
    else
      some (T)
def w168_85 : Nat → sw_T → Int → Option (sw_T)
  | 0, _, _ => none
  | m + 1, T, l1 =>
    (sw_ld T 222 543 5).bind fun v32 =>
    (sw_r2 l1 (3 * v32)).bind fun _u =>
    if l1 < (3 * v32) then
      (sw_ld T 222 543 (183 + l1)).bind fun v36 =>
      (sw_r1 v36).bind fun _u =>
      (w166 T v36).bind fun r39 =>
      w168_85 m r39 (l1 + 1)
    else
      some (T)
def w168_165 : Nat → sw_T → Int → Option (sw_T)
  | 0, _, _ => none
  | m + 1, T, l1 =>
    (sw_r2 l1 4).bind fun _u =>
    if l1 < 4 then
      (w160 T 10 l1).bind fun r65 =>
      (sw_r1 r65.1).bind fun _u =>
      (w166 r65.2 r65.1).bind fun r68 =>
      w168_165 m r68 (l1 + 1)
    else
      some (T)
def w168_238 : Nat → sw_T → Int → Option (sw_T)
  | 0, _, _ => none
  | m + 1, T, l1 =>
    (sw_r2 l1 (T 221 8)).bind fun _u =>
    if l1 < (T 221 8) then
      (sw_ld T 226 60 l1).bind fun v92 =>
      (sw_r1 v92).bind fun _u =>
      (w166 T v92).bind fun r95 =>
      w168_238 m r95 (l1 + 1)
    else
      some (T)
def w168 (T : sw_T) : Option (Int × sw_T) :=
  (sw_pf T 221 0 0).bind fun T1 =>
  (sw_pf T1 221 14 3319).bind fun T3 =>
  (w168_14 sw_N T3 0).bind fun x12 =>
  (w168_38 sw_N x12 0).bind fun x21 =>
  (w168_62 sw_N x21 0).bind fun x29 =>
  (w168_85 sw_N x29 0).bind fun x40 =>
  (w156 x40 0 0).bind fun r43 =>
  (sw_r1 r43.1).bind fun _u =>
  (w166 r43.2 r43.1).bind fun r46 =>
  (w156 r46 1 0).bind fun r48 =>
  (sw_r1 r48.1).bind fun _u =>
  (w166 r48.2 r48.1).bind fun r51 =>
  (w156 r51 0 1).bind fun r53 =>
  (sw_r1 r53.1).bind fun _u =>
  (w166 r53.2 r53.1).bind fun r56 =>
  (w156 r56 0 9).bind fun r58 =>
  (sw_r1 r58.1).bind fun _u =>
  (w166 r58.2 r58.1).bind fun r61 =>
  (w168_165 sw_N r61 0).bind fun x69 =>
  (w162 x69).bind fun r72 =>
  (sw_nd r72).bind fun _u =>
  (w166 x69 (r72.toInt64.toInt)).bind fun r75 =>
  (w164 r75).bind fun r77 =>
  (sw_nf r77).bind fun _u =>
  (sw_r1 (r77.toInt32.toInt)).bind fun _u =>
  (w166 r75 (r77.toInt32.toInt)).bind fun r81 =>
  (sw_r1 (r81 221 6)).bind fun _u =>
  if (r81 221 6) = 0 then
    (w166 r81 0).bind fun r85 =>
    (sw_r1 (r85 221 8)).bind fun _u =>
    (w166 r85 (r85 221 8)).bind fun r88 =>
    (w168_238 sw_N r88 0).bind fun x96 =>
    some (((x96 221 14), x96))
  else
    (w166 r81 1).bind fun r99 =>
    (sw_r1 (r99 221 8)).bind fun _u =>
    (w166 r99 (r99 221 8)).bind fun r102 =>
    (w168_238 sw_N r102 0).bind fun x103 =>
    some (((x103 221 14), x103))
def w169 (T : sw_T) (p1 : Int) : Option (Int × sw_T) :=
  (w59 T p1).bind fun r2 =>
  sw_el r2 (fun r3 =>
    (sw_r1 r3.1).bind fun _u =>
    (sw_st r3.2 228 1 0 r3.1).bind fun T9 =>
    some ((0, T9))
  ) (fun E4 =>
  if E4 = 0 then
    some ((1, T))
  else
  if E4 = 1 then
    some ((2, T))
  else
  none)
def w170 (T : sw_T) (p1 : Int) (p2 : Int) : Option (Int × sw_T) :=
  (w60 T p1 p2).bind fun r2 =>
  sw_el r2 (fun r3 =>
    (sw_r1 r3.1).bind fun _u =>
    (sw_st r3.2 228 1 0 r3.1).bind fun T9 =>
    some ((0, T9))
  ) (fun E4 =>
  if E4 = 0 then
    some ((2, T))
  else
  if E4 = 2 then
    some ((1, T))
  else
  none)
def w171 (T : sw_T) (p1 : Int) (p2 : Int) : Option (Int × sw_T) :=
  (w61 T p1 p2).bind fun r2 =>
  sw_el r2 (fun r3 =>
    (sw_r1 r3.1).bind fun _u =>
    (sw_st r3.2 228 1 0 r3.1).bind fun T9 =>
    some ((0, T9))
  ) (fun E4 =>
  if E4 = 0 then
    some ((2, T))
  else
  if E4 = 1 then
    some ((3, T))
  else
  if E4 = 2 then
    some ((1, T))
  else
  none)
def w172 (T : sw_T) (p1 : Int) : Option (Int × sw_T) :=
  (w62 T p1).bind fun r2 =>
  sw_el r2 (fun r3 =>
    (sw_r1 r3.1).bind fun _u =>
    (sw_st r3.2 228 1 0 r3.1).bind fun T9 =>
    some ((0, T9))
  ) (fun E4 =>
  if E4 = 2 then
    some ((1, T))
  else
  none)
def w173 (T : sw_T) (p1 : Int) : Option (Int × sw_T) :=
  (w63 T p1).bind fun r2 =>
  sw_el r2 (fun r3 =>
    (sw_r1 r3.1).bind fun _u =>
    (sw_st r3.2 228 1 0 r3.1).bind fun T9 =>
    some ((0, T9))
  ) (fun E4 =>
  if E4 = 0 then
    some ((1, T))
  else
  none)
def w174 (T : sw_T) (p1 : Int) (p2 : Int) : Option (Int × sw_T) :=
  (w64 T p1 p2).bind fun r2 =>
  sw_el r2 (fun r3 =>
    (sw_r1 r3.1).bind fun _u =>
    (sw_st r3.2 228 1 0 r3.1).bind fun T9 =>
    some ((0, T9))
  ) (fun E4 =>
  if E4 = 0 then
    some ((2, T))
  else
  if E4 = 2 then
    some ((1, T))
  else
  none)
def w175 (T : sw_T) (p1 : Int) : Option (Int × sw_T) :=
  (w65 T p1).bind fun r2 =>
  sw_el r2 (fun r3 =>
    (sw_r1 r3.1).bind fun _u =>
    (sw_st r3.2 228 1 0 r3.1).bind fun T9 =>
    some ((0, T9))
  ) (fun E4 =>
  if E4 = 0 then
    some ((1, T))
  else
  if E4 = 1 then
    some ((2, T))
  else
  none)
def w176 (T : sw_T) : Option (Int × sw_T) :=
  (w68 T).bind fun r2 =>
  sw_el r2 (fun r3 =>
    (sw_r1 r3.1).bind fun _u =>
    (sw_st r3.2 228 1 0 r3.1).bind fun T9 =>
    some ((0, T9))
  ) (fun E4 =>
  if E4 = 0 then
    some ((1, T))
  else
  none)
def w177 (T : sw_T) : Option (Int × sw_T) :=
  (w70 T).bind fun r2 =>
  sw_el r2 (fun r3 =>
    (sw_r1 r3.1).bind fun _u =>
    (sw_st r3.2 228 1 0 r3.1).bind fun T9 =>
    some ((0, T9))
  ) (fun E4 =>
  if E4 = 1 then
    some ((1, T))
  else
  none)
def w178 (T : sw_T) : Option (Int × sw_T) :=
  (w71 T).bind fun r2 =>
  sw_el r2 (fun r3 =>
    (sw_r1 r3.1).bind fun _u =>
    (sw_st r3.2 228 1 0 r3.1).bind fun T9 =>
    some ((0, T9))
  ) (fun E4 =>
  if E4 = 1 then
    some ((1, T))
  else
  none)
def w179 (T : sw_T) (p1 : Int) (p2 : Int) : Option (Int × sw_T) :=
  (w72 T p1 p2).bind fun r2 =>
  sw_el r2 (fun r3 =>
    (sw_r1 r3).bind fun _u =>
    (sw_st T 228 1 0 r3).bind fun T9 =>
    some ((0, T9))
  ) (fun E4 =>
  if E4 = 0 then
    some ((2, T))
  else
  if E4 = 2 then
    some ((1, T))
  else
  none)
def w180 (T : sw_T) (p1 : Int) (p2 : Int) : Option (Int × sw_T) :=
  (w73 T p1 p2).bind fun r2 =>
  sw_el r2 (fun r3 =>
    (sw_r1 r3).bind fun _u =>
    (sw_st T 228 1 0 r3).bind fun T9 =>
    some ((0, T9))
  ) (fun E4 =>
  if E4 = 0 then
    some ((2, T))
  else
  if E4 = 2 then
    some ((1, T))
  else
  none)
def w181 (T : sw_T) (p1 : Int) (p2 : Int) : Option (Int × sw_T) :=
  (w74 T p1 p2).bind fun r2 =>
  sw_el r2 (fun r3 =>
    (sw_r1 r3).bind fun _u =>
    (sw_st T 228 1 0 r3).bind fun T9 =>
    some ((0, T9))
  ) (fun E4 =>
  if E4 = 0 then
    some ((2, T))
  else
  if E4 = 2 then
    some ((1, T))
  else
  none)
def w182 (T : sw_T) (p1 : Int) : Option (Int × sw_T) :=
  (w75 T p1).bind fun r2 =>
  sw_el r2 (fun r3 =>
    (sw_r1 r3).bind fun _u =>
    (sw_st T 228 1 0 r3).bind fun T9 =>
    some ((0, T9))
  ) (fun E4 =>
  if E4 = 0 then
    some ((1, T))
  else
  none)
def w183 (T : sw_T) (p1 : Int) : Option (Int × sw_T) :=
  (w76 T p1).bind fun r2 =>
  sw_el r2 (fun r3 =>
    (sw_r1 r3).bind fun _u =>
    (sw_st T 228 1 0 r3).bind fun T9 =>
    some ((0, T9))
  ) (fun E4 =>
  if E4 = 2 then
    some ((1, T))
  else
  none)
def w184 (T : sw_T) (p1 : Int) : Option (Int × sw_T) :=
  (w77 T p1).bind fun r2 =>
  sw_el r2 (fun r3 =>
    (sw_r1 r3).bind fun _u =>
    (sw_st T 228 1 0 r3).bind fun T9 =>
    some ((0, T9))
  ) (fun E4 =>
  if E4 = 2 then
    some ((1, T))
  else
  none)
def w185 (T : sw_T) (p1 : Int) : Option (Int × sw_T) :=
  (w80 T p1).bind fun r2 =>
  sw_el r2 (fun r3 =>
    (sw_r1 r3.1).bind fun _u =>
    (sw_st r3.2 228 1 0 r3.1).bind fun T9 =>
    some ((0, T9))
  ) (fun E4 =>
  if E4 = 0 then
    some ((1, T))
  else
  none)
def w186 (T : sw_T) (p1 : Int) (p2 : Int) : Option (Int × sw_T) :=
  (w81 T p1 p2).bind fun r2 =>
  sw_el r2 (fun r3 =>
    (sw_r1 r3.1).bind fun _u =>
    (sw_st r3.2 228 1 0 r3.1).bind fun T9 =>
    some ((0, T9))
  ) (fun E4 =>
  if E4 = 0 then
    some ((1, T))
  else
  none)
def w187_23 (G : sp_G) : Nat → sw_T → Int → Option ((sw_T) ⊕ (Int × sw_T))
  | 0, _, _ => none
  | m + 1, T, l4 =>
    (sw_r2 l4 ((G.2.1 : Int) - 3)).bind fun _u =>
    if ((G.2.1 : Int) - 3) < l4 then
      some (.inl T)
    else
      (sw_ix G.2.1 l4).bind fun _u =>
      (sw_r1 ((sw_xs G l4) % 32)).bind fun _u =>
      if ((sw_xs G l4) % 32) = 0 then
        (sw_ix G.2.1 (l4 + 1)).bind fun _u =>
        (w169 T (sw_xs G (l4 + 1))).bind fun r8 =>
        (sw_ix G.2.1 (l4 + 1)).bind fun _u =>
        (w125 r8.2 (sw_xs G (l4 + 1))).bind fun r13 =>
        (w95 r13.2).bind fun r15 =>
        (sw_r2 r15 r8.1).bind fun _u =>
        if r15 = r8.1 then
          (sw_r1 r8.1).bind fun _u =>
          if r8.1 = 0 then
            (sw_ld r13.2 228 1 0).bind fun v21 =>
            (sw_r1 r13.1).bind fun _u =>
            if v21 = r13.1 then
              w187_23 G m r13.2 (l4 + 3)
            else
              (sw_l2 v21 r13.1).bind fun _u =>
              some (.inr ((0, r13.2)))
          else
            w187_23 G m r13.2 (l4 + 3)
        else
          some (.inr ((0, r13.2)))
      else
      if ((sw_xs G l4) % 32) = 1 then
        (sw_ix G.2.1 (l4 + 1)).bind fun _u =>
        (sw_ix G.2.1 (l4 + 2)).bind fun _u =>
        (w170 T (sw_xs G (l4 + 1)) (sw_xs G (l4 + 2))).bind fun r29 =>
        (sw_ix G.2.1 (l4 + 1)).bind fun _u =>
        (sw_ix G.2.1 (l4 + 2)).bind fun _u =>
        (w126 r29.2 (sw_xs G (l4 + 1)) (sw_xs G (l4 + 2))).bind fun r35 =>
        (w95 r35.2).bind fun r37 =>
        (sw_r2 r37 r29.1).bind fun _u =>
        if r37 = r29.1 then
          (sw_r1 r29.1).bind fun _u =>
          if r29.1 = 0 then
            (sw_ld r35.2 228 1 0).bind fun v43 =>
            (sw_r1 r35.1).bind fun _u =>
            if v43 = r35.1 then
              w187_23 G m r35.2 (l4 + 3)
            else
              (sw_l2 v43 r35.1).bind fun _u =>
              some (.inr ((0, r35.2)))
          else
            w187_23 G m r35.2 (l4 + 3)
        else
          some (.inr ((0, r35.2)))
      else
      if ((sw_xs G l4) % 32) = 2 then
        (sw_ix G.2.1 (l4 + 1)).bind fun _u =>
        (sw_ix G.2.1 (l4 + 2)).bind fun _u =>
        (w171 T (sw_xs G (l4 + 1)) (sw_xs G (l4 + 2))).bind fun r51 =>
        (sw_ix G.2.1 (l4 + 1)).bind fun _u =>
        (sw_ix G.2.1 (l4 + 2)).bind fun _u =>
        (w128 r51.2 (sw_xs G (l4 + 1)) (sw_xs G (l4 + 2))).bind fun r57 =>
        (w95 r57.2).bind fun r59 =>
        (sw_r2 r59 r51.1).bind fun _u =>
        if r59 = r51.1 then
          (sw_r1 r51.1).bind fun _u =>
          if r51.1 = 0 then
            (sw_ld r57.2 228 1 0).bind fun v65 =>
            (sw_r1 r57.1).bind fun _u =>
            if v65 = r57.1 then
              w187_23 G m r57.2 (l4 + 3)
            else
              (sw_l2 v65 r57.1).bind fun _u =>
              some (.inr ((0, r57.2)))
          else
            w187_23 G m r57.2 (l4 + 3)
        else
          some (.inr ((0, r57.2)))
      else
      if ((sw_xs G l4) % 32) = 3 then
        (sw_ix G.2.1 (l4 + 1)).bind fun _u =>
        (w172 T (sw_xs G (l4 + 1))).bind fun r72 =>
        (sw_ix G.2.1 (l4 + 1)).bind fun _u =>
        (w130 r72.2 (sw_xs G (l4 + 1))).bind fun r77 =>
        (w95 r77.2).bind fun r79 =>
        (sw_r2 r79 r72.1).bind fun _u =>
        if r79 = r72.1 then
          (sw_r1 r72.1).bind fun _u =>
          if r72.1 = 0 then
            (sw_ld r77.2 228 1 0).bind fun v85 =>
            (sw_r1 r77.1).bind fun _u =>
            if v85 = r77.1 then
              w187_23 G m r77.2 (l4 + 3)
            else
              (sw_l2 v85 r77.1).bind fun _u =>
              some (.inr ((0, r77.2)))
          else
            w187_23 G m r77.2 (l4 + 3)
        else
          some (.inr ((0, r77.2)))
      else
      if ((sw_xs G l4) % 32) = 4 then
        (sw_ix G.2.1 (l4 + 1)).bind fun _u =>
        (w173 T (sw_xs G (l4 + 1))).bind fun r92 =>
        (sw_ix G.2.1 (l4 + 1)).bind fun _u =>
        (w131 r92.2 (sw_xs G (l4 + 1))).bind fun r97 =>
        (w95 r97.2).bind fun r99 =>
        (sw_r2 r99 r92.1).bind fun _u =>
        if r99 = r92.1 then
          (sw_r1 r92.1).bind fun _u =>
          if r92.1 = 0 then
            (sw_ld r97.2 228 1 0).bind fun v105 =>
            (sw_r1 r97.1).bind fun _u =>
            if v105 = r97.1 then
              w187_23 G m r97.2 (l4 + 3)
            else
              (sw_l2 v105 r97.1).bind fun _u =>
              some (.inr ((0, r97.2)))
          else
            w187_23 G m r97.2 (l4 + 3)
        else
          some (.inr ((0, r97.2)))
      else
      if ((sw_xs G l4) % 32) = 5 then
        (sw_ix G.2.1 (l4 + 1)).bind fun _u =>
        (sw_ix G.2.1 (l4 + 2)).bind fun _u =>
        (w174 T (sw_xs G (l4 + 1)) (sw_xs G (l4 + 2))).bind fun r113 =>
        (sw_ix G.2.1 (l4 + 1)).bind fun _u =>
        (sw_ix G.2.1 (l4 + 2)).bind fun _u =>
        (w132 r113.2 (sw_xs G (l4 + 1)) (sw_xs G (l4 + 2))).bind fun r119 =>
        (w95 r119.2).bind fun r121 =>
        (sw_r2 r121 r113.1).bind fun _u =>
        if r121 = r113.1 then
          (sw_r1 r113.1).bind fun _u =>
          if r113.1 = 0 then
            (sw_ld r119.2 228 1 0).bind fun v127 =>
            (sw_r1 r119.1).bind fun _u =>
            if v127 = r119.1 then
              w187_23 G m r119.2 (l4 + 3)
            else
              (sw_l2 v127 r119.1).bind fun _u =>
              some (.inr ((0, r119.2)))
          else
            w187_23 G m r119.2 (l4 + 3)
        else
          some (.inr ((0, r119.2)))
      else
      if ((sw_xs G l4) % 32) = 6 then
        (sw_ix G.2.1 (l4 + 1)).bind fun _u =>
        (w175 T (sw_xs G (l4 + 1))).bind fun r134 =>
        (sw_ix G.2.1 (l4 + 1)).bind fun _u =>
        (w133 r134.2 (sw_xs G (l4 + 1))).bind fun r139 =>
        (w95 r139.2).bind fun r141 =>
        (sw_r2 r141 r134.1).bind fun _u =>
        if r141 = r134.1 then
          (sw_r1 r134.1).bind fun _u =>
          if r134.1 = 0 then
            (sw_ld r139.2 228 1 0).bind fun v147 =>
            (sw_r1 r139.1).bind fun _u =>
            if v147 = r139.1 then
              w187_23 G m r139.2 (l4 + 3)
            else
              (sw_l2 v147 r139.1).bind fun _u =>
              some (.inr ((0, r139.2)))
          else
            w187_23 G m r139.2 (l4 + 3)
        else
          some (.inr ((0, r139.2)))
      else
      if ((sw_xs G l4) % 32) = 7 then
        (w66 T).bind fun r153 =>
        (w134 r153.2).bind fun r155 =>
        (sw_r2 r153.1 r155.1).bind fun _u =>
        if r153.1 = r155.1 then
          w187_23 G m r155.2 (l4 + 3)
        else
          some (.inr ((0, r155.2)))
      else
      if ((sw_xs G l4) % 32) = 8 then
        (w67 T).bind fun r160 =>
        (w140 T).bind fun r162 =>
        (sw_r2 r160 r162.1).bind fun _u =>
        if r160 = r162.1 then
          w187_23 G m r162.2 (l4 + 3)
        else
          some (.inr ((0, r162.2)))
      else
      if ((sw_xs G l4) % 32) = 9 then
        (w176 T).bind fun r167 =>
        (w142 r167.2).bind fun r171 =>
        (w95 r171.2).bind fun r173 =>
        (sw_r2 r173 r167.1).bind fun _u =>
        if r173 = r167.1 then
          (sw_r1 r167.1).bind fun _u =>
          if r167.1 = 0 then
            (sw_ld r171.2 228 1 0).bind fun v179 =>
            (sw_r1 r171.1).bind fun _u =>
            if v179 = r171.1 then
              w187_23 G m r171.2 (l4 + 3)
            else
              (sw_l2 v179 r171.1).bind fun _u =>
              some (.inr ((0, r171.2)))
          else
            w187_23 G m r171.2 (l4 + 3)
        else
          some (.inr ((0, r171.2)))
      else
      if ((sw_xs G l4) % 32) = 10 then
        (w69 T).bind fun r185 =>
        (w143 r185.2).bind fun r187 =>
        (sw_r2 r185.1 r187.1).bind fun _u =>
        if r185.1 = r187.1 then
          w187_23 G m r187.2 (l4 + 3)
        else
          some (.inr ((0, r187.2)))
      else
      if ((sw_xs G l4) % 32) = 11 then
        (w177 T).bind fun r192 =>
        (w144 r192.2).bind fun r196 =>
        (w95 r196.2).bind fun r198 =>
        (sw_r2 r198 r192.1).bind fun _u =>
        if r198 = r192.1 then
          (sw_r1 r192.1).bind fun _u =>
          if r192.1 = 0 then
            (sw_ld r196.2 228 1 0).bind fun v204 =>
            (sw_r1 r196.1).bind fun _u =>
            if v204 = r196.1 then
              w187_23 G m r196.2 (l4 + 3)
            else
              (sw_l2 v204 r196.1).bind fun _u =>
              some (.inr ((0, r196.2)))
          else
            w187_23 G m r196.2 (l4 + 3)
        else
          some (.inr ((0, r196.2)))
      else
      if ((sw_xs G l4) % 32) = 12 then
        (w178 T).bind fun r210 =>
        (w145 r210.2).bind fun r214 =>
        (w95 r214.2).bind fun r216 =>
        (sw_r2 r216 r210.1).bind fun _u =>
        if r216 = r210.1 then
          (sw_r1 r210.1).bind fun _u =>
          if r210.1 = 0 then
            (sw_ld r214.2 228 1 0).bind fun v222 =>
            (sw_r1 r214.1).bind fun _u =>
            if v222 = r214.1 then
              w187_23 G m r214.2 (l4 + 3)
            else
              (sw_l2 v222 r214.1).bind fun _u =>
              some (.inr ((0, r214.2)))
          else
            w187_23 G m r214.2 (l4 + 3)
        else
          some (.inr ((0, r214.2)))
      else
      if ((sw_xs G l4) % 32) = 13 then
        (sw_ix G.2.1 (l4 + 1)).bind fun _u =>
        (sw_ix G.2.1 (l4 + 2)).bind fun _u =>
        (w179 T (sw_xs G (l4 + 1)) (sw_xs G (l4 + 2))).bind fun r230 =>
        (sw_ix G.2.1 (l4 + 1)).bind fun _u =>
        (sw_ix G.2.1 (l4 + 2)).bind fun _u =>
        (w148 r230.2 (sw_xs G (l4 + 1)) (sw_xs G (l4 + 2))).bind fun r236 =>
        (w95 r236.2).bind fun r238 =>
        (sw_r2 r238 r230.1).bind fun _u =>
        if r238 = r230.1 then
          (sw_r1 r230.1).bind fun _u =>
          if r230.1 = 0 then
            (sw_ld r236.2 228 1 0).bind fun v244 =>
            (sw_r1 r236.1).bind fun _u =>
            if v244 = r236.1 then
              w187_23 G m r236.2 (l4 + 3)
            else
              (sw_l2 v244 r236.1).bind fun _u =>
              some (.inr ((0, r236.2)))
          else
            w187_23 G m r236.2 (l4 + 3)
        else
          some (.inr ((0, r236.2)))
      else
      if ((sw_xs G l4) % 32) = 14 then
        (sw_ix G.2.1 (l4 + 1)).bind fun _u =>
        (sw_ix G.2.1 (l4 + 2)).bind fun _u =>
        (w180 T (sw_xs G (l4 + 1)) (sw_xs G (l4 + 2))).bind fun r252 =>
        (sw_ix G.2.1 (l4 + 1)).bind fun _u =>
        (sw_ix G.2.1 (l4 + 2)).bind fun _u =>
        (w149 r252.2 (sw_xs G (l4 + 1)) (sw_xs G (l4 + 2))).bind fun r258 =>
        (w95 r258.2).bind fun r260 =>
        (sw_r2 r260 r252.1).bind fun _u =>
        if r260 = r252.1 then
          (sw_r1 r252.1).bind fun _u =>
          if r252.1 = 0 then
            (sw_ld r258.2 228 1 0).bind fun v266 =>
            (sw_r1 r258.1).bind fun _u =>
            if v266 = r258.1 then
              w187_23 G m r258.2 (l4 + 3)
            else
              (sw_l2 v266 r258.1).bind fun _u =>
              some (.inr ((0, r258.2)))
          else
            w187_23 G m r258.2 (l4 + 3)
        else
          some (.inr ((0, r258.2)))
      else
      if ((sw_xs G l4) % 32) = 15 then
        (sw_ix G.2.1 (l4 + 1)).bind fun _u =>
        (sw_ix G.2.1 (l4 + 2)).bind fun _u =>
        (w181 T (sw_xs G (l4 + 1)) (sw_xs G (l4 + 2))).bind fun r274 =>
        (sw_ix G.2.1 (l4 + 1)).bind fun _u =>
        (sw_ix G.2.1 (l4 + 2)).bind fun _u =>
        (w150 r274.2 (sw_xs G (l4 + 1)) (sw_xs G (l4 + 2))).bind fun r280 =>
        (w95 r280.2).bind fun r282 =>
        (sw_r2 r282 r274.1).bind fun _u =>
        if r282 = r274.1 then
          (sw_r1 r274.1).bind fun _u =>
          if r274.1 = 0 then
            (sw_ld r280.2 228 1 0).bind fun v288 =>
            (sw_r1 r280.1).bind fun _u =>
            if v288 = r280.1 then
              w187_23 G m r280.2 (l4 + 3)
            else
              (sw_l2 v288 r280.1).bind fun _u =>
              some (.inr ((0, r280.2)))
          else
            w187_23 G m r280.2 (l4 + 3)
        else
          some (.inr ((0, r280.2)))
      else
      if ((sw_xs G l4) % 32) = 16 then
        (sw_ix G.2.1 (l4 + 1)).bind fun _u =>
        (w182 T (sw_xs G (l4 + 1))).bind fun r295 =>
        (sw_ix G.2.1 (l4 + 1)).bind fun _u =>
        (w152 r295.2 (sw_xs G (l4 + 1))).bind fun r300 =>
        (w95 r300.2).bind fun r302 =>
        (sw_r2 r302 r295.1).bind fun _u =>
        if r302 = r295.1 then
          (sw_r1 r295.1).bind fun _u =>
          if r295.1 = 0 then
            (sw_ld r300.2 228 1 0).bind fun v308 =>
            (sw_r1 r300.1).bind fun _u =>
            if v308 = r300.1 then
              w187_23 G m r300.2 (l4 + 3)
            else
              (sw_l2 v308 r300.1).bind fun _u =>
              some (.inr ((0, r300.2)))
          else
            w187_23 G m r300.2 (l4 + 3)
        else
          some (.inr ((0, r300.2)))
      else
      if ((sw_xs G l4) % 32) = 17 then
        (sw_ix G.2.1 (l4 + 1)).bind fun _u =>
        (w183 T (sw_xs G (l4 + 1))).bind fun r315 =>
        (sw_ix G.2.1 (l4 + 1)).bind fun _u =>
        (w153 r315.2 (sw_xs G (l4 + 1))).bind fun r320 =>
        (w95 r320.2).bind fun r322 =>
        (sw_r2 r322 r315.1).bind fun _u =>
        if r322 = r315.1 then
          (sw_r1 r315.1).bind fun _u =>
          if r315.1 = 0 then
            (sw_ld r320.2 228 1 0).bind fun v328 =>
            (sw_r1 r320.1).bind fun _u =>
            if v328 = r320.1 then
              w187_23 G m r320.2 (l4 + 3)
            else
              (sw_l2 v328 r320.1).bind fun _u =>
              some (.inr ((0, r320.2)))
          else
            w187_23 G m r320.2 (l4 + 3)
        else
          some (.inr ((0, r320.2)))
      else
      if ((sw_xs G l4) % 32) = 18 then
        (sw_ix G.2.1 (l4 + 1)).bind fun _u =>
        (w184 T (sw_xs G (l4 + 1))).bind fun r335 =>
        (sw_ix G.2.1 (l4 + 1)).bind fun _u =>
        (w154 r335.2 (sw_xs G (l4 + 1))).bind fun r340 =>
        (w95 r340.2).bind fun r342 =>
        (sw_r2 r342 r335.1).bind fun _u =>
        if r342 = r335.1 then
          (sw_r1 r335.1).bind fun _u =>
          if r335.1 = 0 then
            (sw_ld r340.2 228 1 0).bind fun v348 =>
            (sw_r1 r340.1).bind fun _u =>
            if v348 = r340.1 then
              w187_23 G m r340.2 (l4 + 3)
            else
              (sw_l2 v348 r340.1).bind fun _u =>
              some (.inr ((0, r340.2)))
          else
            w187_23 G m r340.2 (l4 + 3)
        else
          some (.inr ((0, r340.2)))
      else
      if ((sw_xs G l4) % 32) = 19 then
        (w78 T).bind fun r354 =>
        (w157 r354.2).bind fun r356 =>
        (sw_r2 r354.1 r356.1).bind fun _u =>
        if r354.1 = r356.1 then
          w187_23 G m r356.2 (l4 + 3)
        else
          some (.inr ((0, r356.2)))
      else
      if ((sw_xs G l4) % 32) = 20 then
        (w79 T).bind fun r361 =>
        (w158 r361.2).bind fun r363 =>
        (sw_r2 r361.1 r363.1).bind fun _u =>
        if r361.1 = r363.1 then
          w187_23 G m r363.2 (l4 + 3)
        else
          some (.inr ((0, r363.2)))
      else
      if ((sw_xs G l4) % 32) = 21 then
        (sw_ix G.2.1 (l4 + 1)).bind fun _u =>
        (w185 T (sw_xs G (l4 + 1))).bind fun r369 =>
        (sw_ix G.2.1 (l4 + 1)).bind fun _u =>
        (w159 r369.2 (sw_xs G (l4 + 1))).bind fun r374 =>
        (w95 r374.2).bind fun r376 =>
        (sw_r2 r376 r369.1).bind fun _u =>
        if r376 = r369.1 then
          (sw_r1 r369.1).bind fun _u =>
          if r369.1 = 0 then
            (sw_ld r374.2 228 1 0).bind fun v382 =>
            (sw_r1 r374.1).bind fun _u =>
            if v382 = r374.1 then
              w187_23 G m r374.2 (l4 + 3)
            else
              (sw_l2 v382 r374.1).bind fun _u =>
              some (.inr ((0, r374.2)))
          else
            w187_23 G m r374.2 (l4 + 3)
        else
          some (.inr ((0, r374.2)))
      else
      if ((sw_xs G l4) % 32) = 22 then
        (sw_ix G.2.1 (l4 + 1)).bind fun _u =>
        (sw_ix G.2.1 (l4 + 2)).bind fun _u =>
        (w186 T (sw_xs G (l4 + 1)) (sw_xs G (l4 + 2))).bind fun r390 =>
        (sw_ix G.2.1 (l4 + 1)).bind fun _u =>
        (sw_ix G.2.1 (l4 + 2)).bind fun _u =>
        (w161 r390.2 (sw_xs G (l4 + 1)) (sw_xs G (l4 + 2))).bind fun r396 =>
        (w95 r396.2).bind fun r398 =>
        (sw_r2 r398 r390.1).bind fun _u =>
        if r398 = r390.1 then
          (sw_r1 r390.1).bind fun _u =>
          if r390.1 = 0 then
            (sw_ld r396.2 228 1 0).bind fun v404 =>
            (sw_r1 r396.1).bind fun _u =>
            if v404 = r396.1 then
              w187_23 G m r396.2 (l4 + 3)
            else
              (sw_l2 v404 r396.1).bind fun _u =>
              some (.inr ((0, r396.2)))
          else
            w187_23 G m r396.2 (l4 + 3)
        else
          some (.inr ((0, r396.2)))
      else
      if ((sw_xs G l4) % 32) = 23 then
        (w82 T).bind fun r410 =>
        (w163 T).bind fun r412 =>
        (sw_r1 ((Op.cmpValue (FP.dcmp r410 r412.1) .l).toInt)).bind fun _u =>
        if ((Op.cmpValue (FP.dcmp r410 r412.1) .l).toInt) = 0 then
          w187_23 G m r412.2 (l4 + 3)
        else
          (sw_r1 ((Op.cmpValue (FP.dcmp r410 r410) .l).toInt)).bind fun _u =>
          if ((Op.cmpValue (FP.dcmp r410 r410) .l).toInt) = 0 then
            some (.inr ((0, r412.2)))
          else
            (sw_r1 ((Op.cmpValue (FP.dcmp r412.1 r412.1) .l).toInt)).bind fun _u =>
            if ((Op.cmpValue (FP.dcmp r412.1 r412.1) .l).toInt) = 0 then
              some (.inr ((0, r412.2)))
            else
              w187_23 G m r412.2 (l4 + 3)
      else
      if ((sw_xs G l4) % 32) = 24 then
        (w83 T).bind fun r421 =>
        (sw_k64 (FP.f2d r421)).bind fun _u =>
        (w165 T).bind fun r424 =>
        (sw_k64 (FP.f2d r424.1)).bind fun _u =>
        (sw_r1 ((Op.cmpValue (FP.dcmp (FP.f2d r421) (FP.f2d r424.1)) .l).toInt)).bind fun _u =>
        if ((Op.cmpValue (FP.dcmp (FP.f2d r421) (FP.f2d r424.1)) .l).toInt) = 0 then
          w187_23 G m r424.2 (l4 + 3)
        else
          (sw_r1 ((Op.cmpValue (FP.dcmp (FP.f2d r421) (FP.f2d r421)) .l).toInt)).bind fun _u =>
          if ((Op.cmpValue (FP.dcmp (FP.f2d r421) (FP.f2d r421)) .l).toInt) = 0 then
            some (.inr ((0, r424.2)))
          else
            (sw_r1 ((Op.cmpValue (FP.dcmp (FP.f2d r424.1) (FP.f2d r424.1)) .l).toInt)).bind fun _u =>
            if ((Op.cmpValue (FP.dcmp (FP.f2d r424.1) (FP.f2d r424.1)) .l).toInt) = 0 then
              some (.inr ((0, r424.2)))
            else
              w187_23 G m r424.2 (l4 + 3)
      else
      if ((sw_xs G l4) % 32) = 25 then
        (w84 T).bind fun r434 =>
        (w168 r434.2).bind fun r436 =>
        if r434.1 = r436.1 then
          w187_23 G m r436.2 (l4 + 3)
        else
          (sw_l2 r434.1 r436.1).bind fun _u =>
          some (.inr ((0, r436.2)))
      else
        w187_23 G m T (l4 + 3)
def w187 (G : sp_G) (T : sw_T) : Option (Int × sw_T) :=
  (w187_23 G sw_N T 0).bind fun x441 =>
  sw_el x441 (fun x444 =>
    some ((1, x444))
  ) (fun r => some r)
